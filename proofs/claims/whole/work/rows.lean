section
-- ===== PART A: goes FIRST, ahead of the names: the tables' words, and 'selects' of the private methods out of them =====
/-- a private method of a class that the tables say can be made, by its rows of tables_1 -/
def lw_okq (q : MethodName × Nat) : Prop := (q.1.cls ≠ "java/lang/invoke/MethodHandle" ∧ q.1.cls ≠ "java/lang/invoke/VarHandle") ∧ Cond.instantiable q.1.cls q.2 ∈ tables_1 ∧ Cond.privateMethod q.1 ∈ tables_1 ∧ Cond.instanceMethod q.1 ∈ tables_1
theorem lw_p0 : lw_okq (⟨"BehindTractor$Teller", "advance", "()Z"⟩, 14) := ⟨⟨by decide +kernel, by decide +kernel⟩, List.mem_of_getElem? (i := 135) (by decide +kernel), List.mem_of_getElem? (i := 337) (by decide +kernel), List.mem_of_getElem? (i := 338) (by decide +kernel)⟩
theorem lw_p1 : lw_okq (⟨"BehindTractor$Teller", "refuse", "(II)Z"⟩, 14) := ⟨⟨by decide +kernel, by decide +kernel⟩, List.mem_of_getElem? (i := 135) (by decide +kernel), List.mem_of_getElem? (i := 348) (by decide +kernel), List.mem_of_getElem? (i := 349) (by decide +kernel)⟩
theorem lw_p2 : lw_okq (⟨"BehindTractor$Teller", "tellLine", "()Z"⟩, 14) := ⟨⟨by decide +kernel, by decide +kernel⟩, List.mem_of_getElem? (i := 135) (by decide +kernel), List.mem_of_getElem? (i := 352) (by decide +kernel), List.mem_of_getElem? (i := 353) (by decide +kernel)⟩
theorem lw_p3 : lw_okq (⟨"BehindTractor$Teller", "says", "(Ljava/lang/String;)Z"⟩, 14) := ⟨⟨by decide +kernel, by decide +kernel⟩, List.mem_of_getElem? (i := 135) (by decide +kernel), List.mem_of_getElem? (i := 357) (by decide +kernel), List.mem_of_getElem? (i := 358) (by decide +kernel)⟩
theorem lw_p4 : lw_okq (⟨"BehindTractor$Teller", "tellRoad", "()Z"⟩, 14) := ⟨⟨by decide +kernel, by decide +kernel⟩, List.mem_of_getElem? (i := 135) (by decide +kernel), List.mem_of_getElem? (i := 409) (by decide +kernel), List.mem_of_getElem? (i := 410) (by decide +kernel)⟩
theorem lw_p5 : lw_okq (⟨"BehindTractor$Teller", "numbered", "(II)Z"⟩, 14) := ⟨⟨by decide +kernel, by decide +kernel⟩, List.mem_of_getElem? (i := 135) (by decide +kernel), List.mem_of_getElem? (i := 413) (by decide +kernel), List.mem_of_getElem? (i := 414) (by decide +kernel)⟩
theorem lw_p6 : lw_okq (⟨"BehindTractor$Teller", "stops", "()Z"⟩, 14) := ⟨⟨by decide +kernel, by decide +kernel⟩, List.mem_of_getElem? (i := 135) (by decide +kernel), List.mem_of_getElem? (i := 417) (by decide +kernel), List.mem_of_getElem? (i := 418) (by decide +kernel)⟩
theorem lw_p7 : lw_okq (⟨"BehindTractor$Teller", "tellCar", "()Z"⟩, 14) := ⟨⟨by decide +kernel, by decide +kernel⟩, List.mem_of_getElem? (i := 135) (by decide +kernel), List.mem_of_getElem? (i := 422) (by decide +kernel), List.mem_of_getElem? (i := 423) (by decide +kernel)⟩
theorem lw_p8 : lw_okq (⟨"BehindTractor$Teller", "kindSaid", "()I"⟩, 14) := ⟨⟨by decide +kernel, by decide +kernel⟩, List.mem_of_getElem? (i := 135) (by decide +kernel), List.mem_of_getElem? (i := 426) (by decide +kernel), List.mem_of_getElem? (i := 427) (by decide +kernel)⟩
theorem lw_p9 : lw_okq (⟨"BehindTractor$Teller", "tellSlow", "()Z"⟩, 14) := ⟨⟨by decide +kernel, by decide +kernel⟩, List.mem_of_getElem? (i := 135) (by decide +kernel), List.mem_of_getElem? (i := 436) (by decide +kernel), List.mem_of_getElem? (i := 437) (by decide +kernel)⟩
theorem lw_p10 : lw_okq (⟨"BehindTractor$Teller", "stretchMore", "(I)I"⟩, 14) := ⟨⟨by decide +kernel, by decide +kernel⟩, List.mem_of_getElem? (i := 135) (by decide +kernel), List.mem_of_getElem? (i := 441) (by decide +kernel), List.mem_of_getElem? (i := 442) (by decide +kernel)⟩
theorem lw_p11 : lw_okq (⟨"BehindTractor$Teller", "tellOdds", "(I)Z"⟩, 14) := ⟨⟨by decide +kernel, by decide +kernel⟩, List.mem_of_getElem? (i := 135) (by decide +kernel), List.mem_of_getElem? (i := 448) (by decide +kernel), List.mem_of_getElem? (i := 449) (by decide +kernel)⟩
theorem lw_p12 : lw_okq (⟨"BehindTractor$Teller", "checkStretches", "()V"⟩, 14) := ⟨⟨by decide +kernel, by decide +kernel⟩, List.mem_of_getElem? (i := 135) (by decide +kernel), List.mem_of_getElem? (i := 455) (by decide +kernel), List.mem_of_getElem? (i := 456) (by decide +kernel)⟩
theorem lw_p13 : lw_okq (⟨"BehindTractor", "isStretch", "(I)Z"⟩, 12) := ⟨⟨by decide +kernel, by decide +kernel⟩, List.mem_of_getElem? (i := 16) (by decide +kernel), List.mem_of_getElem? (i := 478) (by decide +kernel), List.mem_of_getElem? (i := 479) (by decide +kernel)⟩
theorem lw_p14 : lw_okq (⟨"BehindTractor", "isCar", "(I)Z"⟩, 12) := ⟨⟨by decide +kernel, by decide +kernel⟩, List.mem_of_getElem? (i := 16) (by decide +kernel), List.mem_of_getElem? (i := 487) (by decide +kernel), List.mem_of_getElem? (i := 488) (by decide +kernel)⟩
theorem lw_p15 : lw_okq (⟨"BehindTractor$Chances", "begin", "(LBehindTractor$World;)V"⟩, 4) := ⟨⟨by decide +kernel, by decide +kernel⟩, List.mem_of_getElem? (i := 255) (by decide +kernel), List.mem_of_getElem? (i := 616) (by decide +kernel), List.mem_of_getElem? (i := 617) (by decide +kernel)⟩
def lw_privs_1 : List (MethodName × Nat) := [(⟨"BehindTractor$Teller", "advance", "()Z"⟩, 14), (⟨"BehindTractor$Teller", "refuse", "(II)Z"⟩, 14), (⟨"BehindTractor$Teller", "tellLine", "()Z"⟩, 14), (⟨"BehindTractor$Teller", "says", "(Ljava/lang/String;)Z"⟩, 14), (⟨"BehindTractor$Teller", "tellRoad", "()Z"⟩, 14), (⟨"BehindTractor$Teller", "numbered", "(II)Z"⟩, 14), (⟨"BehindTractor$Teller", "stops", "()Z"⟩, 14), (⟨"BehindTractor$Teller", "tellCar", "()Z"⟩, 14), (⟨"BehindTractor$Teller", "kindSaid", "()I"⟩, 14), (⟨"BehindTractor$Teller", "tellSlow", "()Z"⟩, 14), (⟨"BehindTractor$Teller", "stretchMore", "(I)I"⟩, 14), (⟨"BehindTractor$Teller", "tellOdds", "(I)Z"⟩, 14), (⟨"BehindTractor$Teller", "checkStretches", "()V"⟩, 14), (⟨"BehindTractor", "isStretch", "(I)Z"⟩, 12), (⟨"BehindTractor", "isCar", "(I)Z"⟩, 12), (⟨"BehindTractor$Chances", "begin", "(LBehindTractor$World;)V"⟩, 4)]
theorem lw_r1 : ∀ q ∈ lw_privs_1, lw_okq q := List.forall_mem_cons.mpr ⟨lw_p0, List.forall_mem_cons.mpr ⟨lw_p1, List.forall_mem_cons.mpr ⟨lw_p2, List.forall_mem_cons.mpr ⟨lw_p3, List.forall_mem_cons.mpr ⟨lw_p4, List.forall_mem_cons.mpr ⟨lw_p5, List.forall_mem_cons.mpr ⟨lw_p6, List.forall_mem_cons.mpr ⟨lw_p7, List.forall_mem_cons.mpr ⟨lw_p8, List.forall_mem_cons.mpr ⟨lw_p9, List.forall_mem_cons.mpr ⟨lw_p10, List.forall_mem_cons.mpr ⟨lw_p11, List.forall_mem_cons.mpr ⟨lw_p12, List.forall_mem_cons.mpr ⟨lw_p13, List.forall_mem_cons.mpr ⟨lw_p14, List.forall_mem_cons.mpr ⟨lw_p15, fun _ h => absurd h List.not_mem_nil⟩⟩⟩⟩⟩⟩⟩⟩⟩⟩⟩⟩⟩⟩⟩⟩
theorem lw_p16 : lw_okq (⟨"BehindTractor", "bestPlace", "(ZI)I"⟩, 12) := ⟨⟨by decide +kernel, by decide +kernel⟩, List.mem_of_getElem? (i := 16) (by decide +kernel), List.mem_of_getElem? (i := 662) (by decide +kernel), List.mem_of_getElem? (i := 663) (by decide +kernel)⟩
theorem lw_p17 : lw_okq (⟨"BehindTractor$Arrivals", "goDown", "(LBehindTractor$World;II)V"⟩, 11) := ⟨⟨by decide +kernel, by decide +kernel⟩, List.mem_of_getElem? (i := 207) (by decide +kernel), List.mem_of_getElem? (i := 729) (by decide +kernel), List.mem_of_getElem? (i := 730) (by decide +kernel)⟩
theorem lw_p18 : lw_okq (⟨"BehindTractor$Arrivals", "judge", "(II[I)V"⟩, 11) := ⟨⟨by decide +kernel, by decide +kernel⟩, List.mem_of_getElem? (i := 207) (by decide +kernel), List.mem_of_getElem? (i := 735) (by decide +kernel), List.mem_of_getElem? (i := 736) (by decide +kernel)⟩
theorem lw_p19 : lw_okq (⟨"BehindTractorModel", "step", "()V"⟩, 27) := ⟨⟨by decide +kernel, by decide +kernel⟩, List.mem_of_getElem? (i := 803) (by decide +kernel), List.mem_of_getElem? (i := 908) (by decide +kernel), List.mem_of_getElem? (i := 909) (by decide +kernel)⟩
theorem lw_p20 : lw_okq (⟨"BehindTractorModel", "byteAt", "(I)I"⟩, 27) := ⟨⟨by decide +kernel, by decide +kernel⟩, List.mem_of_getElem? (i := 803) (by decide +kernel), List.mem_of_getElem? (i := 912) (by decide +kernel), List.mem_of_getElem? (i := 913) (by decide +kernel)⟩
theorem lw_p21 : lw_okq (⟨"BehindTractorModel", "fails", "(I)V"⟩, 27) := ⟨⟨by decide +kernel, by decide +kernel⟩, List.mem_of_getElem? (i := 803) (by decide +kernel), List.mem_of_getElem? (i := 920) (by decide +kernel), List.mem_of_getElem? (i := 921) (by decide +kernel)⟩
theorem lw_p22 : lw_okq (⟨"BehindTractorModel", "readLine", "()V"⟩, 27) := ⟨⟨by decide +kernel, by decide +kernel⟩, List.mem_of_getElem? (i := 803) (by decide +kernel), List.mem_of_getElem? (i := 924) (by decide +kernel), List.mem_of_getElem? (i := 925) (by decide +kernel)⟩
theorem lw_p23 : lw_okq (⟨"BehindTractorModel", "nameHere", "()I"⟩, 27) := ⟨⟨by decide +kernel, by decide +kernel⟩, List.mem_of_getElem? (i := 803) (by decide +kernel), List.mem_of_getElem? (i := 928) (by decide +kernel), List.mem_of_getElem? (i := 929) (by decide +kernel)⟩
theorem lw_p24 : lw_okq (⟨"BehindTractorModel", "readMore", "(I)V"⟩, 27) := ⟨⟨by decide +kernel, by decide +kernel⟩, List.mem_of_getElem? (i := 803) (by decide +kernel), List.mem_of_getElem? (i := 933) (by decide +kernel), List.mem_of_getElem? (i := 934) (by decide +kernel)⟩
theorem lw_p25 : lw_okq (⟨"BehindTractorModel", "number", "(II)I"⟩, 27) := ⟨⟨by decide +kernel, by decide +kernel⟩, List.mem_of_getElem? (i := 803) (by decide +kernel), List.mem_of_getElem? (i := 937) (by decide +kernel), List.mem_of_getElem? (i := 938) (by decide +kernel)⟩
theorem lw_p26 : lw_okq (⟨"BehindTractorModel", "readCar", "()V"⟩, 27) := ⟨⟨by decide +kernel, by decide +kernel⟩, List.mem_of_getElem? (i := 803) (by decide +kernel), List.mem_of_getElem? (i := 941) (by decide +kernel), List.mem_of_getElem? (i := 942) (by decide +kernel)⟩
theorem lw_p27 : lw_okq (⟨"BehindTractorModel", "fresh", "(I)I"⟩, 27) := ⟨⟨by decide +kernel, by decide +kernel⟩, List.mem_of_getElem? (i := 803) (by decide +kernel), List.mem_of_getElem? (i := 945) (by decide +kernel), List.mem_of_getElem? (i := 946) (by decide +kernel)⟩
theorem lw_p28 : lw_okq (⟨"BehindTractorModel", "paceOn", "(I)I"⟩, 27) := ⟨⟨by decide +kernel, by decide +kernel⟩, List.mem_of_getElem? (i := 803) (by decide +kernel), List.mem_of_getElem? (i := 958) (by decide +kernel), List.mem_of_getElem? (i := 959) (by decide +kernel)⟩
theorem lw_p29 : lw_okq (⟨"BehindTractorModel", "pastOn", "(I)I"⟩, 27) := ⟨⟨by decide +kernel, by decide +kernel⟩, List.mem_of_getElem? (i := 803) (by decide +kernel), List.mem_of_getElem? (i := 962) (by decide +kernel), List.mem_of_getElem? (i := 963) (by decide +kernel)⟩
theorem lw_p30 : lw_okq (⟨"BehindTractorModel", "isPast", "(II)Z"⟩, 27) := ⟨⟨by decide +kernel, by decide +kernel⟩, List.mem_of_getElem? (i := 803) (by decide +kernel), List.mem_of_getElem? (i := 966) (by decide +kernel), List.mem_of_getElem? (i := 967) (by decide +kernel)⟩
theorem lw_p31 : lw_okq (⟨"BehindTractorModel", "isRoad", "(I)Z"⟩, 27) := ⟨⟨by decide +kernel, by decide +kernel⟩, List.mem_of_getElem? (i := 803) (by decide +kernel), List.mem_of_getElem? (i := 974) (by decide +kernel), List.mem_of_getElem? (i := 975) (by decide +kernel)⟩
def lw_privs_2 : List (MethodName × Nat) := [(⟨"BehindTractor", "bestPlace", "(ZI)I"⟩, 12), (⟨"BehindTractor$Arrivals", "goDown", "(LBehindTractor$World;II)V"⟩, 11), (⟨"BehindTractor$Arrivals", "judge", "(II[I)V"⟩, 11), (⟨"BehindTractorModel", "step", "()V"⟩, 27), (⟨"BehindTractorModel", "byteAt", "(I)I"⟩, 27), (⟨"BehindTractorModel", "fails", "(I)V"⟩, 27), (⟨"BehindTractorModel", "readLine", "()V"⟩, 27), (⟨"BehindTractorModel", "nameHere", "()I"⟩, 27), (⟨"BehindTractorModel", "readMore", "(I)V"⟩, 27), (⟨"BehindTractorModel", "number", "(II)I"⟩, 27), (⟨"BehindTractorModel", "readCar", "()V"⟩, 27), (⟨"BehindTractorModel", "fresh", "(I)I"⟩, 27), (⟨"BehindTractorModel", "paceOn", "(I)I"⟩, 27), (⟨"BehindTractorModel", "pastOn", "(I)I"⟩, 27), (⟨"BehindTractorModel", "isPast", "(II)Z"⟩, 27), (⟨"BehindTractorModel", "isRoad", "(I)Z"⟩, 27)]
theorem lw_r2 : ∀ q ∈ lw_privs_2, lw_okq q := List.forall_mem_cons.mpr ⟨lw_p16, List.forall_mem_cons.mpr ⟨lw_p17, List.forall_mem_cons.mpr ⟨lw_p18, List.forall_mem_cons.mpr ⟨lw_p19, List.forall_mem_cons.mpr ⟨lw_p20, List.forall_mem_cons.mpr ⟨lw_p21, List.forall_mem_cons.mpr ⟨lw_p22, List.forall_mem_cons.mpr ⟨lw_p23, List.forall_mem_cons.mpr ⟨lw_p24, List.forall_mem_cons.mpr ⟨lw_p25, List.forall_mem_cons.mpr ⟨lw_p26, List.forall_mem_cons.mpr ⟨lw_p27, List.forall_mem_cons.mpr ⟨lw_p28, List.forall_mem_cons.mpr ⟨lw_p29, List.forall_mem_cons.mpr ⟨lw_p30, List.forall_mem_cons.mpr ⟨lw_p31, fun _ h => absurd h List.not_mem_nil⟩⟩⟩⟩⟩⟩⟩⟩⟩⟩⟩⟩⟩⟩⟩⟩
theorem lw_p32 : lw_okq (⟨"BehindTractorModel", "isCar", "(I)Z"⟩, 27) := ⟨⟨by decide +kernel, by decide +kernel⟩, List.mem_of_getElem? (i := 803) (by decide +kernel), List.mem_of_getElem? (i := 982) (by decide +kernel), List.mem_of_getElem? (i := 983) (by decide +kernel)⟩
theorem lw_p33 : lw_okq (⟨"BehindTractorModel", "aheadOf", "(II)I"⟩, 27) := ⟨⟨by decide +kernel, by decide +kernel⟩, List.mem_of_getElem? (i := 803) (by decide +kernel), List.mem_of_getElem? (i := 987) (by decide +kernel), List.mem_of_getElem? (i := 988) (by decide +kernel)⟩
theorem lw_p34 : lw_okq (⟨"BehindTractorModel", "useOn", "(III)I"⟩, 27) := ⟨⟨by decide +kernel, by decide +kernel⟩, List.mem_of_getElem? (i := 803) (by decide +kernel), List.mem_of_getElem? (i := 996) (by decide +kernel), List.mem_of_getElem? (i := 997) (by decide +kernel)⟩
theorem lw_p35 : lw_okq (⟨"BehindTractorModel", "sets", "(ZII)I"⟩, 27) := ⟨⟨by decide +kernel, by decide +kernel⟩, List.mem_of_getElem? (i := 803) (by decide +kernel), List.mem_of_getElem? (i := 1004) (by decide +kernel), List.mem_of_getElem? (i := 1005) (by decide +kernel)⟩
theorem lw_p36 : lw_okq (⟨"BehindTractorModel", "drives", "(I)I"⟩, 27) := ⟨⟨by decide +kernel, by decide +kernel⟩, List.mem_of_getElem? (i := 803) (by decide +kernel), List.mem_of_getElem? (i := 1035) (by decide +kernel), List.mem_of_getElem? (i := 1036) (by decide +kernel)⟩
theorem lw_p37 : lw_okq (⟨"BehindTractorModel", "areLeft", "(I)Z"⟩, 27) := ⟨⟨by decide +kernel, by decide +kernel⟩, List.mem_of_getElem? (i := 803) (by decide +kernel), List.mem_of_getElem? (i := 1039) (by decide +kernel), List.mem_of_getElem? (i := 1040) (by decide +kernel)⟩
theorem lw_p38 : lw_okq (⟨"BehindTractorModel", "driveOn", "(II)I"⟩, 27) := ⟨⟨by decide +kernel, by decide +kernel⟩, List.mem_of_getElem? (i := 803) (by decide +kernel), List.mem_of_getElem? (i := 1043) (by decide +kernel), List.mem_of_getElem? (i := 1044) (by decide +kernel)⟩
theorem lw_p39 : lw_okq (⟨"BehindTractorModel", "passOn", "(II)I"⟩, 27) := ⟨⟨by decide +kernel, by decide +kernel⟩, List.mem_of_getElem? (i := 803) (by decide +kernel), List.mem_of_getElem? (i := 1050) (by decide +kernel), List.mem_of_getElem? (i := 1051) (by decide +kernel)⟩
theorem lw_p40 : lw_okq (⟨"BehindTractorModel", "isEnough", "(IIII)Z"⟩, 27) := ⟨⟨by decide +kernel, by decide +kernel⟩, List.mem_of_getElem? (i := 803) (by decide +kernel), List.mem_of_getElem? (i := 1054) (by decide +kernel), List.mem_of_getElem? (i := 1055) (by decide +kernel)⟩
theorem lw_p41 : lw_okq (⟨"BehindTractorModel", "ownGap", "(I)I"⟩, 27) := ⟨⟨by decide +kernel, by decide +kernel⟩, List.mem_of_getElem? (i := 803) (by decide +kernel), List.mem_of_getElem? (i := 1062) (by decide +kernel), List.mem_of_getElem? (i := 1063) (by decide +kernel)⟩
theorem lw_p42 : lw_okq (⟨"BehindTractorModel", "copies", "(II)V"⟩, 27) := ⟨⟨by decide +kernel, by decide +kernel⟩, List.mem_of_getElem? (i := 803) (by decide +kernel), List.mem_of_getElem? (i := 1070) (by decide +kernel), List.mem_of_getElem? (i := 1071) (by decide +kernel)⟩
theorem lw_p43 : lw_okq (⟨"BehindTractorModel", "triesFrom", "(I)V"⟩, 27) := ⟨⟨by decide +kernel, by decide +kernel⟩, List.mem_of_getElem? (i := 803) (by decide +kernel), List.mem_of_getElem? (i := 1083) (by decide +kernel), List.mem_of_getElem? (i := 1084) (by decide +kernel)⟩
theorem lw_p44 : lw_okq (⟨"BehindTractorModel", "timesOn", "(I)I"⟩, 27) := ⟨⟨by decide +kernel, by decide +kernel⟩, List.mem_of_getElem? (i := 803) (by decide +kernel), List.mem_of_getElem? (i := 1087) (by decide +kernel), List.mem_of_getElem? (i := 1088) (by decide +kernel)⟩
theorem lw_p45 : lw_okq (⟨"BehindTractorModel", "milesLeft", "()I"⟩, 27) := ⟨⟨by decide +kernel, by decide +kernel⟩, List.mem_of_getElem? (i := 803) (by decide +kernel), List.mem_of_getElem? (i := 1091) (by decide +kernel), List.mem_of_getElem? (i := 1092) (by decide +kernel)⟩
theorem lw_p46 : lw_okq (⟨"BehindTractorModel", "meanOf", "(III)J"⟩, 27) := ⟨⟨by decide +kernel, by decide +kernel⟩, List.mem_of_getElem? (i := 803) (by decide +kernel), List.mem_of_getElem? (i := 1099) (by decide +kernel), List.mem_of_getElem? (i := 1100) (by decide +kernel)⟩
theorem lw_p47 : lw_okq (⟨"BehindTractorModel", "leftMany", "()I"⟩, 27) := ⟨⟨by decide +kernel, by decide +kernel⟩, List.mem_of_getElem? (i := 803) (by decide +kernel), List.mem_of_getElem? (i := 1103) (by decide +kernel), List.mem_of_getElem? (i := 1104) (by decide +kernel)⟩
def lw_privs_3 : List (MethodName × Nat) := [(⟨"BehindTractorModel", "isCar", "(I)Z"⟩, 27), (⟨"BehindTractorModel", "aheadOf", "(II)I"⟩, 27), (⟨"BehindTractorModel", "useOn", "(III)I"⟩, 27), (⟨"BehindTractorModel", "sets", "(ZII)I"⟩, 27), (⟨"BehindTractorModel", "drives", "(I)I"⟩, 27), (⟨"BehindTractorModel", "areLeft", "(I)Z"⟩, 27), (⟨"BehindTractorModel", "driveOn", "(II)I"⟩, 27), (⟨"BehindTractorModel", "passOn", "(II)I"⟩, 27), (⟨"BehindTractorModel", "isEnough", "(IIII)Z"⟩, 27), (⟨"BehindTractorModel", "ownGap", "(I)I"⟩, 27), (⟨"BehindTractorModel", "copies", "(II)V"⟩, 27), (⟨"BehindTractorModel", "triesFrom", "(I)V"⟩, 27), (⟨"BehindTractorModel", "timesOn", "(I)I"⟩, 27), (⟨"BehindTractorModel", "milesLeft", "()I"⟩, 27), (⟨"BehindTractorModel", "meanOf", "(III)J"⟩, 27), (⟨"BehindTractorModel", "leftMany", "()I"⟩, 27)]
theorem lw_r3 : ∀ q ∈ lw_privs_3, lw_okq q := List.forall_mem_cons.mpr ⟨lw_p32, List.forall_mem_cons.mpr ⟨lw_p33, List.forall_mem_cons.mpr ⟨lw_p34, List.forall_mem_cons.mpr ⟨lw_p35, List.forall_mem_cons.mpr ⟨lw_p36, List.forall_mem_cons.mpr ⟨lw_p37, List.forall_mem_cons.mpr ⟨lw_p38, List.forall_mem_cons.mpr ⟨lw_p39, List.forall_mem_cons.mpr ⟨lw_p40, List.forall_mem_cons.mpr ⟨lw_p41, List.forall_mem_cons.mpr ⟨lw_p42, List.forall_mem_cons.mpr ⟨lw_p43, List.forall_mem_cons.mpr ⟨lw_p44, List.forall_mem_cons.mpr ⟨lw_p45, List.forall_mem_cons.mpr ⟨lw_p46, List.forall_mem_cons.mpr ⟨lw_p47, fun _ h => absurd h List.not_mem_nil⟩⟩⟩⟩⟩⟩⟩⟩⟩⟩⟩⟩⟩⟩⟩⟩
theorem lw_p48 : lw_okq (⟨"BehindTractorModel", "triesBy", "(II)I"⟩, 27) := ⟨⟨by decide +kernel, by decide +kernel⟩, List.mem_of_getElem? (i := 803) (by decide +kernel), List.mem_of_getElem? (i := 1107) (by decide +kernel), List.mem_of_getElem? (i := 1108) (by decide +kernel)⟩
theorem lw_p49 : lw_okq (⟨"BehindTractorModel", "weightOf", "(I)J"⟩, 27) := ⟨⟨by decide +kernel, by decide +kernel⟩, List.mem_of_getElem? (i := 803) (by decide +kernel), List.mem_of_getElem? (i := 1111) (by decide +kernel), List.mem_of_getElem? (i := 1112) (by decide +kernel)⟩
theorem lw_p50 : lw_okq (⟨"BehindTractorModel", "allWeight", "()J"⟩, 27) := ⟨⟨by decide +kernel, by decide +kernel⟩, List.mem_of_getElem? (i := 803) (by decide +kernel), List.mem_of_getElem? (i := 1115) (by decide +kernel), List.mem_of_getElem? (i := 1116) (by decide +kernel)⟩
theorem lw_p51 : lw_okq (⟨"BehindTractorModel", "timesOfOthers", "(I)I"⟩, 27) := ⟨⟨by decide +kernel, by decide +kernel⟩, List.mem_of_getElem? (i := 803) (by decide +kernel), List.mem_of_getElem? (i := 1139) (by decide +kernel), List.mem_of_getElem? (i := 1140) (by decide +kernel)⟩
theorem lw_p52 : lw_okq (⟨"BehindTractorModel", "mostSaved", "(II)I"⟩, 27) := ⟨⟨by decide +kernel, by decide +kernel⟩, List.mem_of_getElem? (i := 803) (by decide +kernel), List.mem_of_getElem? (i := 1147) (by decide +kernel), List.mem_of_getElem? (i := 1148) (by decide +kernel)⟩
theorem lw_p53 : lw_okq (⟨"BehindTractorModel", "firstBehind", "()I"⟩, 27) := ⟨⟨by decide +kernel, by decide +kernel⟩, List.mem_of_getElem? (i := 803) (by decide +kernel), List.mem_of_getElem? (i := 1168) (by decide +kernel), List.mem_of_getElem? (i := 1169) (by decide +kernel)⟩
theorem lw_p54 : lw_okq (⟨"BehindTractorModel", "chance", "(II)I"⟩, 27) := ⟨⟨by decide +kernel, by decide +kernel⟩, List.mem_of_getElem? (i := 803) (by decide +kernel), List.mem_of_getElem? (i := 1173) (by decide +kernel), List.mem_of_getElem? (i := 1174) (by decide +kernel)⟩
theorem lw_p55 : lw_okq (⟨"BehindTractorModel", "isAsSeen", "(I)Z"⟩, 27) := ⟨⟨by decide +kernel, by decide +kernel⟩, List.mem_of_getElem? (i := 803) (by decide +kernel), List.mem_of_getElem? (i := 1191) (by decide +kernel), List.mem_of_getElem? (i := 1192) (by decide +kernel)⟩
def lw_privs_4 : List (MethodName × Nat) := [(⟨"BehindTractorModel", "triesBy", "(II)I"⟩, 27), (⟨"BehindTractorModel", "weightOf", "(I)J"⟩, 27), (⟨"BehindTractorModel", "allWeight", "()J"⟩, 27), (⟨"BehindTractorModel", "timesOfOthers", "(I)I"⟩, 27), (⟨"BehindTractorModel", "mostSaved", "(II)I"⟩, 27), (⟨"BehindTractorModel", "firstBehind", "()I"⟩, 27), (⟨"BehindTractorModel", "chance", "(II)I"⟩, 27), (⟨"BehindTractorModel", "isAsSeen", "(I)Z"⟩, 27)]
theorem lw_r4 : ∀ q ∈ lw_privs_4, lw_okq q := List.forall_mem_cons.mpr ⟨lw_p48, List.forall_mem_cons.mpr ⟨lw_p49, List.forall_mem_cons.mpr ⟨lw_p50, List.forall_mem_cons.mpr ⟨lw_p51, List.forall_mem_cons.mpr ⟨lw_p52, List.forall_mem_cons.mpr ⟨lw_p53, List.forall_mem_cons.mpr ⟨lw_p54, List.forall_mem_cons.mpr ⟨lw_p55, fun _ h => absurd h List.not_mem_nil⟩⟩⟩⟩⟩⟩⟩⟩
def lw_privs : List (MethodName × Nat) := lw_privs_1 ++ (lw_privs_2 ++ (lw_privs_3 ++ (lw_privs_4)))
def lw_tbl : List Cond := k2_sels lw_privs ++ tables_1
theorem lw_privs_ok : ∀ q ∈ lw_privs, lw_okq q := by
  show ∀ q ∈ lw_privs_1 ++ (lw_privs_2 ++ (lw_privs_3 ++ (lw_privs_4))), lw_okq q
  exact List.forall_mem_append.mpr ⟨lw_r1, List.forall_mem_append.mpr ⟨lw_r2, List.forall_mem_append.mpr ⟨lw_r3, lw_r4⟩⟩⟩
-- ===== end of PART A; then your names; then what follows =====
end
section
def RX0 : String := "BehindTractor$Arrivals"
def TX0 : u_T := fun k => match k with
  | 0 => ("BehindTractor$Arrivals", "seenCars", "[I", true)
  | 1 => ("BehindTractor$Arrivals", "seenTimes", "[I", true)
  | 2 => ("BehindTractor$Arrivals", "pasts", "[I", true)
  | 3 => ("BehindTractor$Arrivals", "sets", "[I", true)
  | 4 => ("BehindTractor$Arrivals", "times", "[[I", true)
  | 5 => ("BehindTractor$Arrivals", "seen", "I", false)
  | 6 => ("BehindTractor$Arrivals", "fitting", "I", false)
  | 7 => ("BehindTractor$Arrivals", "leastSet", "I", false)
  | 8 => ("BehindTractor$Arrivals", "inAll", "I", false)
  | 9 => ("BehindTractor$Arrivals", "inSome", "I", false)
  | _ => ("BehindTractor$Arrivals", "goneInSome", "I", false)
def tyX0 : Nat → FieldType := fun k => match k with
  | 0 => .array .int
  | 1 => .array .int
  | 2 => .array .int
  | 3 => .array .int
  | 4 => .array (.array .int)
  | 5 => .int
  | 6 => .int
  | 7 => .int
  | 8 => .int
  | 9 => .int
  | _ => .int
theorem nmX0 : ∀ a, a < 11 → ∀ b, b < 11 → a ≠ b → (TX0 a).2.1 ≠ (TX0 b).2.1 := by decide +kernel
theorem tyX0_ok : ∀ k, k < 11 → parseFieldDescriptor (TX0 k).2.2.1 = some (tyX0 k) := by decide +kernel
abbrev cX0_init : ByteArray := prog_2_method_1_code
def yX0_init : MethodName := ⟨RX0, "<init>", "()V"⟩
abbrev cX0_add : ByteArray := prog_2_method_2_code
def yX0_add : MethodName := ⟨RX0, "add", "(II)Z"⟩
abbrev cX0_tryAllSets : ByteArray := prog_2_method_3_code
def yX0_tryAllSets : MethodName := ⟨RX0, "tryAllSets", "(LBehindTractor$World;)V"⟩
abbrev cX0_goDown : ByteArray := prog_2_method_4_code
def yX0_goDown : MethodName := ⟨RX0, "goDown", "(LBehindTractor$World;II)V"⟩
abbrev cX0_judge : ByteArray := prog_2_method_5_code
def yX0_judge : MethodName := ⟨RX0, "judge", "(II[I)V"⟩
def RX1 : String := "BehindTractor$Chances"
def TX1 : u_T := fun k => match k with
  | 0 => ("BehindTractor$Chances", "weights", "[J", true)
  | 1 => ("BehindTractor$Chances", "later", "[J", true)
  | 2 => ("BehindTractor$Chances", "whole", "J", false)
  | _ => ("BehindTractor$Chances", "firstDared", "I", false)
def tyX1 : Nat → FieldType := fun k => match k with
  | 0 => .array .long
  | 1 => .array .long
  | 2 => .long
  | _ => .int
theorem nmX1 : ∀ a, a < 4 → ∀ b, b < 4 → a ≠ b → (TX1 a).2.1 ≠ (TX1 b).2.1 := by decide +kernel
theorem tyX1_ok : ∀ k, k < 4 → parseFieldDescriptor (TX1 k).2.2.1 = some (tyX1 k) := by decide +kernel
abbrev cX1_init : ByteArray := prog_3_method_1_code
def yX1_init : MethodName := ⟨RX1, "<init>", "()V"⟩
abbrev cX1_spread : ByteArray := prog_3_method_2_code
def yX1_spread : MethodName := ⟨RX1, "spread", "(LBehindTractor$World;I)V"⟩
abbrev cX1_begin : ByteArray := prog_3_method_3_code
def yX1_begin : MethodName := ⟨RX1, "begin", "(LBehindTractor$World;)V"⟩
abbrev cX1_spreadOne : ByteArray := prog_3_method_4_code
def yX1_spreadOne : MethodName := ⟨RX1, "spreadOne", "(LBehindTractor$World;I)V"⟩
abbrev cX1_weightOfGone : ByteArray := prog_3_method_5_code
def yX1_weightOfGone : MethodName := ⟨RX1, "weightOfGone", "(I)J"⟩
abbrev cX1_weightedTime : ByteArray := prog_3_method_6_code
def yX1_weightedTime : MethodName := ⟨RX1, "weightedTime", "(LBehindTractor$World;I)J"⟩
abbrev cX1_bestDaring : ByteArray := prog_3_method_7_code
def yX1_bestDaring : MethodName := ⟨RX1, "bestDaring", "(LBehindTractor$World;II)J"⟩
abbrev cX1_tenthsToPass : ByteArray := prog_3_method_8_code
def yX1_tenthsToPass : MethodName := ⟨RX1, "tenthsToPass", "(LBehindTractor$World;II)I"⟩
def RX2 : String := "BehindTractor$Sheet"
def TX2 : u_T := fun k => match k with
  | 0 => ("BehindTractor$Sheet", "cells", "[I", true)
  | 1 => ("BehindTractor$Sheet", "lane", "I", false)
  | _ => ("BehindTractor$Sheet", "size", "I", false)
def tyX2 : Nat → FieldType := fun k => match k with
  | 0 => .array .int
  | 1 => .int
  | _ => .int
theorem nmX2 : ∀ a, a < 3 → ∀ b, b < 3 → a ≠ b → (TX2 a).2.1 ≠ (TX2 b).2.1 := by decide +kernel
theorem tyX2_ok : ∀ k, k < 3 → parseFieldDescriptor (TX2 k).2.2.1 = some (tyX2 k) := by decide +kernel
abbrev cX2_init : ByteArray := prog_4_method_1_code
def yX2_init : MethodName := ⟨RX2, "<init>", "()V"⟩
abbrev cX2_begin : ByteArray := prog_4_method_2_code
def yX2_begin : MethodName := ⟨RX2, "begin", "(II)V"⟩
abbrev cX2_faultAt : ByteArray := prog_4_method_3_code
def yX2_faultAt : MethodName := ⟨RX2, "faultAt", "(II)I"⟩
abbrev cX2_put : ByteArray := prog_4_method_4_code
def yX2_put : MethodName := ⟨RX2, "put", "(II)V"⟩
def RX3 : String := "BehindTractor$Teller"
def TX3 : u_T := fun k => match k with
  | 0 => ("BehindTractor$Teller", "bytes", "[B", true)
  | 1 => ("BehindTractor$Teller", "told", "LBehindTractor$World;", true)
  | 2 => ("BehindTractor$Teller", "length", "I", false)
  | 3 => ("BehindTractor$Teller", "faultFound", "I", false)
  | 4 => ("BehindTractor$Teller", "faultPlace", "I", false)
  | 5 => ("BehindTractor$Teller", "next", "I", false)
  | 6 => ("BehindTractor$Teller", "token", "I", false)
  | 7 => ("BehindTractor$Teller", "start", "I", false)
  | 8 => ("BehindTractor$Teller", "value", "I", false)
  | 9 => ("BehindTractor$Teller", "slows", "I", false)
  | 10 => ("BehindTractor$Teller", "hillsTold", "I", false)
  | 11 => ("BehindTractor$Teller", "oddsTold", "I", false)
  | 12 => ("BehindTractor$Teller", "laybysTold", "I", false)
  | _ => ("BehindTractor$Teller", "lanesTold", "I", false)
def tyX3 : Nat → FieldType := fun k => match k with
  | 0 => .array .byte
  | 1 => .object "BehindTractor$World"
  | 2 => .int
  | 3 => .int
  | 4 => .int
  | 5 => .int
  | 6 => .int
  | 7 => .int
  | 8 => .int
  | 9 => .int
  | 10 => .int
  | 11 => .int
  | 12 => .int
  | _ => .int
theorem nmX3 : ∀ a, a < 14 → ∀ b, b < 14 → a ≠ b → (TX3 a).2.1 ≠ (TX3 b).2.1 := by decide +kernel
theorem tyX3_ok : ∀ k, k < 14 → parseFieldDescriptor (TX3 k).2.2.1 = some (tyX3 k) := by decide +kernel
abbrev cX3_init : ByteArray := prog_5_method_1_code
def yX3_init : MethodName := ⟨RX3, "<init>", "([BLBehindTractor$World;)V"⟩
abbrev cX3_tellAll : ByteArray := prog_5_method_2_code
def yX3_tellAll : MethodName := ⟨RX3, "tellAll", "(I)I"⟩
abbrev cX3_checkStretches : ByteArray := prog_5_method_3_code
def yX3_checkStretches : MethodName := ⟨RX3, "checkStretches", "()V"⟩
abbrev cX3_refuse : ByteArray := prog_5_method_4_code
def yX3_refuse : MethodName := ⟨RX3, "refuse", "(II)Z"⟩
abbrev cX3_advance : ByteArray := prog_5_method_5_code
def yX3_advance : MethodName := ⟨RX3, "advance", "()Z"⟩
abbrev cX3_isLetter : ByteArray := prog_5_method_6_code
def yX3_isLetter : MethodName := ⟨RX3, "isLetter", "(I)Z"⟩
abbrev cX3_isFigure : ByteArray := prog_5_method_7_code
def yX3_isFigure : MethodName := ⟨RX3, "isFigure", "(I)Z"⟩
abbrev cX3_says : ByteArray := prog_5_method_8_code
def yX3_says : MethodName := ⟨RX3, "says", "(Ljava/lang/String;)Z"⟩
abbrev cX3_tellLine : ByteArray := prog_5_method_9_code
def yX3_tellLine : MethodName := ⟨RX3, "tellLine", "()Z"⟩
abbrev cX3_stops : ByteArray := prog_5_method_10_code
def yX3_stops : MethodName := ⟨RX3, "stops", "()Z"⟩
abbrev cX3_numbered : ByteArray := prog_5_method_11_code
def yX3_numbered : MethodName := ⟨RX3, "numbered", "(II)Z"⟩
abbrev cX3_stretchMore : ByteArray := prog_5_method_12_code
def yX3_stretchMore : MethodName := ⟨RX3, "stretchMore", "(I)I"⟩
abbrev cX3_tellRoad : ByteArray := prog_5_method_13_code
def yX3_tellRoad : MethodName := ⟨RX3, "tellRoad", "()Z"⟩
abbrev cX3_tellOdds : ByteArray := prog_5_method_14_code
def yX3_tellOdds : MethodName := ⟨RX3, "tellOdds", "(I)Z"⟩
abbrev cX3_tellSlow : ByteArray := prog_5_method_15_code
def yX3_tellSlow : MethodName := ⟨RX3, "tellSlow", "()Z"⟩
abbrev cX3_tellCar : ByteArray := prog_5_method_16_code
def yX3_tellCar : MethodName := ⟨RX3, "tellCar", "()Z"⟩
abbrev cX3_kindSaid : ByteArray := prog_5_method_17_code
def yX3_kindSaid : MethodName := ⟨RX3, "kindSaid", "()I"⟩
def RX4 : String := "BehindTractor$World"
def TX4 : u_T := fun k => match k with
  | 0 => ("BehindTractor$World", "miles", "[I", true)
  | 1 => ("BehindTractor$World", "sights", "[I", true)
  | 2 => ("BehindTractor$World", "gaps", "[I", true)
  | 3 => ("BehindTractor$World", "odds", "[I", true)
  | 4 => ("BehindTractor$World", "kinds", "[I", true)
  | 5 => ("BehindTractor$World", "needs", "[I", true)
  | 6 => ("BehindTractor$World", "paces", "[I", true)
  | 7 => ("BehindTractor$World", "times", "[I", true)
  | 8 => ("BehindTractor$World", "stretches", "I", false)
  | 9 => ("BehindTractor$World", "hills", "I", false)
  | 10 => ("BehindTractor$World", "laybys", "I", false)
  | 11 => ("BehindTractor$World", "lanes", "I", false)
  | 12 => ("BehindTractor$World", "cars", "I", false)
  | 13 => ("BehindTractor$World", "gone", "I", false)
  | 14 => ("BehindTractor$World", "pace", "I", false)
  | 15 => ("BehindTractor$World", "least", "I", false)
  | 16 => ("BehindTractor$World", "at", "I", false)
  | _ => ("BehindTractor$World", "time", "I", false)
def tyX4 : Nat → FieldType := fun k => match k with
  | 0 => .array .int
  | 1 => .array .int
  | 2 => .array .int
  | 3 => .array .int
  | 4 => .array .int
  | 5 => .array .int
  | 6 => .array .int
  | 7 => .array .int
  | 8 => .int
  | 9 => .int
  | 10 => .int
  | 11 => .int
  | 12 => .int
  | 13 => .int
  | 14 => .int
  | 15 => .int
  | 16 => .int
  | _ => .int
theorem nmX4 : ∀ a, a < 18 → ∀ b, b < 18 → a ≠ b → (TX4 a).2.1 ≠ (TX4 b).2.1 := by decide +kernel
theorem tyX4_ok : ∀ k, k < 18 → parseFieldDescriptor (TX4 k).2.2.1 = some (tyX4 k) := by decide +kernel
abbrev cX4_init : ByteArray := prog_6_method_1_code
def yX4_init : MethodName := ⟨RX4, "<init>", "()V"⟩
abbrev cX4_clear : ByteArray := prog_6_method_2_code
def yX4_clear : MethodName := ⟨RX4, "clear", "()V"⟩
abbrev cX4_takeFrom : ByteArray := prog_6_method_3_code
def yX4_takeFrom : MethodName := ⟨RX4, "takeFrom", "(LBehindTractor$World;)V"⟩
abbrev cX4_everybody : ByteArray := prog_6_method_4_code
def yX4_everybody : MethodName := ⟨RX4, "everybody", "()I"⟩
abbrev cX4_behind : ByteArray := prog_6_method_5_code
def yX4_behind : MethodName := ⟨RX4, "behind", "(I)I"⟩
abbrev cX4_firstBehind : ByteArray := prog_6_method_6_code
def yX4_firstBehind : MethodName := ⟨RX4, "firstBehind", "()I"⟩
abbrev cX4_behindAheadOf : ByteArray := prog_6_method_7_code
def yX4_behindAheadOf : MethodName := ⟨RX4, "behindAheadOf", "(I)I"⟩
abbrev cX4_allHaveCome : ByteArray := prog_6_method_8_code
def yX4_allHaveCome : MethodName := ⟨RX4, "allHaveCome", "()Z"⟩
abbrev cX4_stretchesLeft : ByteArray := prog_6_method_9_code
def yX4_stretchesLeft : MethodName := ⟨RX4, "stretchesLeft", "()I"⟩
abbrev cX4_milesLeft : ByteArray := prog_6_method_10_code
def yX4_milesLeft : MethodName := ⟨RX4, "milesLeft", "()I"⟩
abbrev cX4_sumOfTimes : ByteArray := prog_6_method_11_code
def yX4_sumOfTimes : MethodName := ⟨RX4, "sumOfTimes", "()I"⟩
abbrev cX4_ofUse : ByteArray := prog_6_method_12_code
def yX4_ofUse : MethodName := ⟨RX4, "ofUse", "(II)I"⟩
abbrev cX4_comers : ByteArray := prog_6_method_13_code
def yX4_comers : MethodName := ⟨RX4, "comers", "(III)I"⟩
abbrev cX4_passes : ByteArray := prog_6_method_14_code
def yX4_passes : MethodName := ⟨RX4, "passes", "(IIIZ)Z"⟩
abbrev cX4_minutes : ByteArray := prog_6_method_15_code
def yX4_minutes : MethodName := ⟨RX4, "minutes", "(III)I"⟩
abbrev cX4_driveOne : ByteArray := prog_6_method_16_code
def yX4_driveOne : MethodName := ⟨RX4, "driveOne", "(I)I"⟩
abbrev cX4_driveToEnd : ByteArray := prog_6_method_17_code
def yX4_driveToEnd : MethodName := ⟨RX4, "driveToEnd", "()I"⟩
def RX5 : String := "BehindTractor"
def TX5 : u_T := fun k => match k with
  | 0 => ("BehindTractor", "tape", "[B", true)
  | 1 => ("BehindTractor", "live", "LBehindTractor$World;", true)
  | 2 => ("BehindTractor", "trial", "LBehindTractor$World;", true)
  | 3 => ("BehindTractor", "teller", "LBehindTractor$Teller;", true)
  | 4 => ("BehindTractor", "images", "[LBehindTractor$World;", true)
  | 5 => ("BehindTractor", "sheets", "[LBehindTractor$Sheet;", true)
  | 6 => ("BehindTractor", "arrivals", "LBehindTractor$Arrivals;", true)
  | 7 => ("BehindTractor", "chances", "LBehindTractor$Chances;", true)
  | 8 => ("BehindTractor", "tapeLength", "I", false)
  | 9 => ("BehindTractor", "textFault", "I", false)
  | 10 => ("BehindTractor", "imagesKept", "I", false)
  | _ => ("BehindTractor", "tornFault", "I", false)
def tyX5 : Nat → FieldType := fun k => match k with
  | 0 => .array .byte
  | 1 => .object "BehindTractor$World"
  | 2 => .object "BehindTractor$World"
  | 3 => .object "BehindTractor$Teller"
  | 4 => .array (.object "BehindTractor$World")
  | 5 => .array (.object "BehindTractor$Sheet")
  | 6 => .object "BehindTractor$Arrivals"
  | 7 => .object "BehindTractor$Chances"
  | 8 => .int
  | 9 => .int
  | 10 => .int
  | _ => .int
theorem nmX5 : ∀ a, a < 12 → ∀ b, b < 12 → a ≠ b → (TX5 a).2.1 ≠ (TX5 b).2.1 := by decide +kernel
theorem tyX5_ok : ∀ k, k < 12 → parseFieldDescriptor (TX5 k).2.2.1 = some (tyX5 k) := by decide +kernel
abbrev cX5_init : ByteArray := prog_1_method_1_code
def yX5_init : MethodName := ⟨RX5, "<init>", "()V"⟩
abbrev cX5_feed : ByteArray := prog_1_method_2_code
def yX5_feed : MethodName := ⟨RX5, "feed", "(I)I"⟩
abbrev cX5_end : ByteArray := prog_1_method_3_code
def yX5_end : MethodName := ⟨RX5, "end", "(I)I"⟩
abbrev cX5_text : ByteArray := prog_1_method_4_code
def yX5_text : MethodName := ⟨RX5, "text", "()I"⟩
abbrev cX5_fault : ByteArray := prog_1_method_5_code
def yX5_fault : MethodName := ⟨RX5, "fault", "()I"⟩
abbrev cX5_rule : ByteArray := prog_1_method_6_code
def yX5_rule : MethodName := ⟨RX5, "rule", "(I)I"⟩
abbrev cX5_road : ByteArray := prog_1_method_7_code
def yX5_road : MethodName := ⟨RX5, "road", "(II)I"⟩
abbrev cX5_car : ByteArray := prog_1_method_8_code
def yX5_car : MethodName := ⟨RX5, "car", "(II)I"⟩
abbrev cX5_use : ByteArray := prog_1_method_9_code
def yX5_use : MethodName := ⟨RX5, "use", "(II)I"⟩
abbrev cX5_gap : ByteArray := prog_1_method_10_code
def yX5_gap : MethodName := ⟨RX5, "gap", "(II)I"⟩
abbrev cX5_sight : ByteArray := prog_1_method_11_code
def yX5_sight : MethodName := ⟨RX5, "sight", "(II)I"⟩
abbrev cX5_odd : ByteArray := prog_1_method_12_code
def yX5_odd : MethodName := ⟨RX5, "odd", "(II)I"⟩
abbrev cX5_build : ByteArray := prog_1_method_13_code
def yX5_build : MethodName := ⟨RX5, "build", "(IIZ)I"⟩
abbrev cX5_polite : ByteArray := prog_1_method_14_code
def yX5_polite : MethodName := ⟨RX5, "polite", "(I)I"⟩
abbrev cX5_teach : ByteArray := prog_1_method_15_code
def yX5_teach : MethodName := ⟨RX5, "teach", "(III)I"⟩
abbrev cX5_drive : ByteArray := prog_1_method_16_code
def yX5_drive : MethodName := ⟨RX5, "drive", "(I)I"⟩
abbrev cX5_on : ByteArray := prog_1_method_17_code
def yX5_on : MethodName := ⟨RX5, "on", "()I"⟩
abbrev cX5_ahead : ByteArray := prog_1_method_18_code
def yX5_ahead : MethodName := ⟨RX5, "ahead", "(II)I"⟩
abbrev cX5_tail : ByteArray := prog_1_method_19_code
def yX5_tail : MethodName := ⟨RX5, "tail", "(I)I"⟩
abbrev cX5_lost : ByteArray := prog_1_method_20_code
def yX5_lost : MethodName := ⟨RX5, "lost", "()I"⟩
abbrev cX5_past : ByteArray := prog_1_method_21_code
def yX5_past : MethodName := ⟨RX5, "past", "(II)J"⟩
abbrev cX5_mean : ByteArray := prog_1_method_22_code
def yX5_mean : MethodName := ⟨RX5, "mean", "(II)J"⟩
abbrev cX5_row : ByteArray := prog_1_method_23_code
def yX5_row : MethodName := ⟨RX5, "row", "(I)J"⟩
abbrev cX5_where : ByteArray := prog_1_method_24_code
def yX5_where : MethodName := ⟨RX5, "where", "(III)J"⟩
abbrev cX5_cost : ByteArray := prog_1_method_25_code
def yX5_cost : MethodName := ⟨RX5, "cost", "(I)I"⟩
abbrev cX5_third : ByteArray := prog_1_method_26_code
def yX5_third : MethodName := ⟨RX5, "third", "(I)I"⟩
abbrev cX5_layby : ByteArray := prog_1_method_27_code
def yX5_layby : MethodName := ⟨RX5, "layby", "(I)I"⟩
abbrev cX5_fair : ByteArray := prog_1_method_28_code
def yX5_fair : MethodName := ⟨RX5, "fair", "(I)I"⟩
abbrev cX5_need : ByteArray := prog_1_method_29_code
def yX5_need : MethodName := ⟨RX5, "need", "(I)I"⟩
abbrev cX5_dare : ByteArray := prog_1_method_30_code
def yX5_dare : MethodName := ⟨RX5, "dare", "(II)J"⟩
abbrev cX5_see : ByteArray := prog_1_method_31_code
def yX5_see : MethodName := ⟨RX5, "see", "(II)I"⟩
abbrev cX5_forget : ByteArray := prog_1_method_32_code
def yX5_forget : MethodName := ⟨RX5, "forget", "(I)I"⟩
abbrev cX5_fits : ByteArray := prog_1_method_33_code
def yX5_fits : MethodName := ⟨RX5, "fits", "(I)I"⟩
abbrev cX5_could : ByteArray := prog_1_method_34_code
def yX5_could : MethodName := ⟨RX5, "could", "()I"⟩
abbrev cX5_drift : ByteArray := prog_1_method_35_code
def yX5_drift : MethodName := ⟨RX5, "drift", "(II)I"⟩
abbrev cX5_keep : ByteArray := prog_1_method_36_code
def yX5_keep : MethodName := ⟨RX5, "keep", "(I)I"⟩
abbrev cX5_back : ByteArray := prog_1_method_37_code
def yX5_back : MethodName := ⟨RX5, "back", "(I)I"⟩
abbrev cX5_sheet : ByteArray := prog_1_method_38_code
def yX5_sheet : MethodName := ⟨RX5, "sheet", "(III)I"⟩
abbrev cX5_lay : ByteArray := prog_1_method_39_code
def yX5_lay : MethodName := ⟨RX5, "lay", "(III)I"⟩
abbrev cX5_read : ByteArray := prog_1_method_40_code
def yX5_read : MethodName := ⟨RX5, "read", "(IIII)I"⟩
abbrev cX5_torn : ByteArray := prog_1_method_41_code
def yX5_torn : MethodName := ⟨RX5, "torn", "()I"⟩
abbrev cX5_count : ByteArray := prog_1_method_42_code
def yX5_count : MethodName := ⟨RX5, "count", "(I)I"⟩
abbrev cX5_isStretch : ByteArray := prog_1_method_43_code
def yX5_isStretch : MethodName := ⟨RX5, "isStretch", "(I)Z"⟩
abbrev cX5_isCar : ByteArray := prog_1_method_44_code
def yX5_isCar : MethodName := ⟨RX5, "isCar", "(I)Z"⟩
abbrev cX5_isSheet : ByteArray := prog_1_method_45_code
def yX5_isSheet : MethodName := ⟨RX5, "isSheet", "(I)Z"⟩
abbrev cX5_isLane : ByteArray := prog_1_method_46_code
def yX5_isLane : MethodName := ⟨RX5, "isLane", "(I)Z"⟩
abbrev cX5_within : ByteArray := prog_1_method_47_code
def yX5_within : MethodName := ⟨RX5, "within", "(III)Z"⟩
abbrev cX5_bit : ByteArray := prog_1_method_48_code
def yX5_bit : MethodName := ⟨RX5, "bit", "(II)I"⟩
abbrev cX5_withBit : ByteArray := prog_1_method_49_code
def yX5_withBit : MethodName := ⟨RX5, "withBit", "(IIZ)I"⟩
abbrev cX5_exchange : ByteArray := prog_1_method_50_code
def yX5_exchange : MethodName := ⟨RX5, "exchange", "([III)I"⟩
abbrev cX5_bestPlace : ByteArray := prog_1_method_51_code
def yX5_bestPlace : MethodName := ⟨RX5, "bestPlace", "(ZI)I"⟩
abbrev cX5_lowest : ByteArray := prog_1_method_52_code
def yX5_lowest : MethodName := ⟨RX5, "lowest", "(JJI)J"⟩
def RX6 : String := "BehindTractorModel"
def TX6 : u_T := fun k => match k with
  | 0 => ("BehindTractorModel", "state", "[I", true)
  | 1 => ("BehindTractorModel", "roadMany", "I", false)
  | 2 => ("BehindTractorModel", "carMany", "I", false)
  | 3 => ("BehindTractorModel", "readPage", "[I", true)
  | 4 => ("BehindTractorModel", "readRoads", "I", false)
  | 5 => ("BehindTractorModel", "readCars", "I", false)
  | 6 => ("BehindTractorModel", "toldOnce", "I", false)
  | 7 => ("BehindTractorModel", "toldOf", "[I", true)
  | 8 => ("BehindTractorModel", "highRoad", "I", false)
  | 9 => ("BehindTractorModel", "tape", "[I", true)
  | 10 => ("BehindTractorModel", "taped", "I", false)
  | 11 => ("BehindTractorModel", "fault", "I", false)
  | 12 => ("BehindTractorModel", "broken", "I", false)
  | 13 => ("BehindTractorModel", "brokenAt", "I", false)
  | 14 => ("BehindTractorModel", "spot", "I", false)
  | 15 => ("BehindTractorModel", "here", "I", false)
  | 16 => ("BehindTractorModel", "token", "I", false)
  | 17 => ("BehindTractorModel", "value", "I", false)
  | 18 => ("BehindTractorModel", "cuts", "[I", true)
  | 19 => ("BehindTractorModel", "letters", "[I", true)
  | 20 => ("BehindTractorModel", "seen", "[I", true)
  | 21 => ("BehindTractorModel", "seenMany", "I", false)
  | 22 => ("BehindTractorModel", "isKept", "[Z", true)
  | 23 => ("BehindTractorModel", "lanes", "[I", true)
  | 24 => ("BehindTractorModel", "lengths", "[I", true)
  | 25 => ("BehindTractorModel", "cells", "[I", true)
  | _ => ("BehindTractorModel", "torn", "I", false)
def tyX6 : Nat → FieldType := fun k => match k with
  | 0 => .array .int
  | 1 => .int
  | 2 => .int
  | 3 => .array .int
  | 4 => .int
  | 5 => .int
  | 6 => .int
  | 7 => .array .int
  | 8 => .int
  | 9 => .array .int
  | 10 => .int
  | 11 => .int
  | 12 => .int
  | 13 => .int
  | 14 => .int
  | 15 => .int
  | 16 => .int
  | 17 => .int
  | 18 => .array .int
  | 19 => .array .int
  | 20 => .array .int
  | 21 => .int
  | 22 => .array .boolean
  | 23 => .array .int
  | 24 => .array .int
  | 25 => .array .int
  | _ => .int
theorem nmX6 : ∀ a, a < 27 → ∀ b, b < 27 → a ≠ b → (TX6 a).2.1 ≠ (TX6 b).2.1 := by decide +kernel
theorem tyX6_ok : ∀ k, k < 27 → parseFieldDescriptor (TX6 k).2.2.1 = some (tyX6 k) := by decide +kernel
abbrev cX6_init : ByteArray := prog_8_method_1_code
def yX6_init : MethodName := ⟨RX6, "<init>", "()V"⟩
abbrev cX6_in : ByteArray := prog_8_method_3_code
def yX6_in : MethodName := ⟨RX6, "in", "(JJJ)Z"⟩
abbrev cX6_feed : ByteArray := prog_8_method_4_code
def yX6_feed : MethodName := ⟨RX6, "feed", "(I)I"⟩
abbrev cX6_end : ByteArray := prog_8_method_5_code
def yX6_end : MethodName := ⟨RX6, "end", "(I)I"⟩
abbrev cX6_byteAt : ByteArray := prog_8_method_6_code
def yX6_byteAt : MethodName := ⟨RX6, "byteAt", "(I)I"⟩
abbrev cX6_fails : ByteArray := prog_8_method_7_code
def yX6_fails : MethodName := ⟨RX6, "fails", "(I)V"⟩
abbrev cX6_nameHere : ByteArray := prog_8_method_8_code
def yX6_nameHere : MethodName := ⟨RX6, "nameHere", "()I"⟩
abbrev cX6_step : ByteArray := prog_8_method_9_code
def yX6_step : MethodName := ⟨RX6, "step", "()V"⟩
abbrev cX6_number : ByteArray := prog_8_method_10_code
def yX6_number : MethodName := ⟨RX6, "number", "(II)I"⟩
abbrev cX6_fresh : ByteArray := prog_8_method_11_code
def yX6_fresh : MethodName := ⟨RX6, "fresh", "(I)I"⟩
abbrev cX6_readCar : ByteArray := prog_8_method_12_code
def yX6_readCar : MethodName := ⟨RX6, "readCar", "()V"⟩
abbrev cX6_readMore : ByteArray := prog_8_method_13_code
def yX6_readMore : MethodName := ⟨RX6, "readMore", "(I)V"⟩
abbrev cX6_readLine : ByteArray := prog_8_method_14_code
def yX6_readLine : MethodName := ⟨RX6, "readLine", "()V"⟩
abbrev cX6_text : ByteArray := prog_8_method_15_code
def yX6_text : MethodName := ⟨RX6, "text", "()I"⟩
abbrev cX6_fault : ByteArray := prog_8_method_16_code
def yX6_fault : MethodName := ⟨RX6, "fault", "()I"⟩
abbrev cX6_isRoad : ByteArray := prog_8_method_17_code
def yX6_isRoad : MethodName := ⟨RX6, "isRoad", "(I)Z"⟩
abbrev cX6_isCar : ByteArray := prog_8_method_18_code
def yX6_isCar : MethodName := ⟨RX6, "isCar", "(I)Z"⟩
abbrev cX6_isPast : ByteArray := prog_8_method_19_code
def yX6_isPast : MethodName := ⟨RX6, "isPast", "(II)Z"⟩
abbrev cX6_pastOn : ByteArray := prog_8_method_20_code
def yX6_pastOn : MethodName := ⟨RX6, "pastOn", "(I)I"⟩
abbrev cX6_paceOn : ByteArray := prog_8_method_21_code
def yX6_paceOn : MethodName := ⟨RX6, "paceOn", "(I)I"⟩
abbrev cX6_rule : ByteArray := prog_8_method_22_code
def yX6_rule : MethodName := ⟨RX6, "rule", "(I)I"⟩
abbrev cX6_road : ByteArray := prog_8_method_23_code
def yX6_road : MethodName := ⟨RX6, "road", "(II)I"⟩
abbrev cX6_aheadOf : ByteArray := prog_8_method_24_code
def yX6_aheadOf : MethodName := ⟨RX6, "aheadOf", "(II)I"⟩
abbrev cX6_car : ByteArray := prog_8_method_25_code
def yX6_car : MethodName := ⟨RX6, "car", "(II)I"⟩
abbrev cX6_useOn : ByteArray := prog_8_method_26_code
def yX6_useOn : MethodName := ⟨RX6, "useOn", "(III)I"⟩
abbrev cX6_use : ByteArray := prog_8_method_27_code
def yX6_use : MethodName := ⟨RX6, "use", "(II)I"⟩
abbrev cX6_sets : ByteArray := prog_8_method_28_code
def yX6_sets : MethodName := ⟨RX6, "sets", "(ZII)I"⟩
abbrev cX6_gap : ByteArray := prog_8_method_29_code
def yX6_gap : MethodName := ⟨RX6, "gap", "(II)I"⟩
abbrev cX6_sight : ByteArray := prog_8_method_30_code
def yX6_sight : MethodName := ⟨RX6, "sight", "(II)I"⟩
abbrev cX6_odd : ByteArray := prog_8_method_31_code
def yX6_odd : MethodName := ⟨RX6, "odd", "(II)I"⟩
abbrev cX6_build : ByteArray := prog_8_method_32_code
def yX6_build : MethodName := ⟨RX6, "build", "(IIZ)I"⟩
abbrev cX6_polite : ByteArray := prog_8_method_33_code
def yX6_polite : MethodName := ⟨RX6, "polite", "(I)I"⟩
abbrev cX6_teach : ByteArray := prog_8_method_34_code
def yX6_teach : MethodName := ⟨RX6, "teach", "(III)I"⟩
abbrev cX6_isEnough : ByteArray := prog_8_method_35_code
def yX6_isEnough : MethodName := ⟨RX6, "isEnough", "(IIII)Z"⟩
abbrev cX6_passOn : ByteArray := prog_8_method_36_code
def yX6_passOn : MethodName := ⟨RX6, "passOn", "(II)I"⟩
abbrev cX6_bitsOf : ByteArray := prog_8_method_37_code
def yX6_bitsOf : MethodName := ⟨RX6, "bitsOf", "(I)I"⟩
abbrev cX6_driveOn : ByteArray := prog_8_method_38_code
def yX6_driveOn : MethodName := ⟨RX6, "driveOn", "(II)I"⟩
abbrev cX6_areLeft : ByteArray := prog_8_method_39_code
def yX6_areLeft : MethodName := ⟨RX6, "areLeft", "(I)Z"⟩
abbrev cX6_drives : ByteArray := prog_8_method_40_code
def yX6_drives : MethodName := ⟨RX6, "drives", "(I)I"⟩
abbrev cX6_drive : ByteArray := prog_8_method_41_code
def yX6_drive : MethodName := ⟨RX6, "drive", "(I)I"⟩
abbrev cX6_ownGap : ByteArray := prog_8_method_42_code
def yX6_ownGap : MethodName := ⟨RX6, "ownGap", "(I)I"⟩
abbrev cX6_on : ByteArray := prog_8_method_43_code
def yX6_on : MethodName := ⟨RX6, "on", "()I"⟩
abbrev cX6_copies : ByteArray := prog_8_method_44_code
def yX6_copies : MethodName := ⟨RX6, "copies", "(II)V"⟩
abbrev cX6_triesFrom : ByteArray := prog_8_method_45_code
def yX6_triesFrom : MethodName := ⟨RX6, "triesFrom", "(I)V"⟩
abbrev cX6_timesOn : ByteArray := prog_8_method_46_code
def yX6_timesOn : MethodName := ⟨RX6, "timesOn", "(I)I"⟩
abbrev cX6_ahead : ByteArray := prog_8_method_47_code
def yX6_ahead : MethodName := ⟨RX6, "ahead", "(II)I"⟩
abbrev cX6_tail : ByteArray := prog_8_method_48_code
def yX6_tail : MethodName := ⟨RX6, "tail", "(I)I"⟩
abbrev cX6_milesLeft : ByteArray := prog_8_method_49_code
def yX6_milesLeft : MethodName := ⟨RX6, "milesLeft", "()I"⟩
abbrev cX6_lost : ByteArray := prog_8_method_50_code
def yX6_lost : MethodName := ⟨RX6, "lost", "()I"⟩
abbrev cX6_leftMany : ByteArray := prog_8_method_51_code
def yX6_leftMany : MethodName := ⟨RX6, "leftMany", "()I"⟩
abbrev cX6_triesBy : ByteArray := prog_8_method_52_code
def yX6_triesBy : MethodName := ⟨RX6, "triesBy", "(II)I"⟩
abbrev cX6_weightOf : ByteArray := prog_8_method_53_code
def yX6_weightOf : MethodName := ⟨RX6, "weightOf", "(I)J"⟩
abbrev cX6_allWeight : ByteArray := prog_8_method_54_code
def yX6_allWeight : MethodName := ⟨RX6, "allWeight", "()J"⟩
abbrev cX6_lowest : ByteArray := prog_8_method_55_code
def yX6_lowest : MethodName := ⟨RX6, "lowest", "(JJI)J"⟩
abbrev cX6_meanOf : ByteArray := prog_8_method_56_code
def yX6_meanOf : MethodName := ⟨RX6, "meanOf", "(III)J"⟩
abbrev cX6_past : ByteArray := prog_8_method_57_code
def yX6_past : MethodName := ⟨RX6, "past", "(II)J"⟩
abbrev cX6_mean : ByteArray := prog_8_method_58_code
def yX6_mean : MethodName := ⟨RX6, "mean", "(II)J"⟩
abbrev cX6_row : ByteArray := prog_8_method_59_code
def yX6_row : MethodName := ⟨RX6, "row", "(I)J"⟩
abbrev cX6_where : ByteArray := prog_8_method_60_code
def yX6_where : MethodName := ⟨RX6, "where", "(III)J"⟩
abbrev cX6_timesOfOthers : ByteArray := prog_8_method_61_code
def yX6_timesOfOthers : MethodName := ⟨RX6, "timesOfOthers", "(I)I"⟩
abbrev cX6_cost : ByteArray := prog_8_method_62_code
def yX6_cost : MethodName := ⟨RX6, "cost", "(I)I"⟩
abbrev cX6_mostSaved : ByteArray := prog_8_method_63_code
def yX6_mostSaved : MethodName := ⟨RX6, "mostSaved", "(II)I"⟩
abbrev cX6_third : ByteArray := prog_8_method_64_code
def yX6_third : MethodName := ⟨RX6, "third", "(I)I"⟩
abbrev cX6_layby : ByteArray := prog_8_method_65_code
def yX6_layby : MethodName := ⟨RX6, "layby", "(I)I"⟩
abbrev cX6_fair : ByteArray := prog_8_method_66_code
def yX6_fair : MethodName := ⟨RX6, "fair", "(I)I"⟩
abbrev cX6_need : ByteArray := prog_8_method_67_code
def yX6_need : MethodName := ⟨RX6, "need", "(I)I"⟩
abbrev cX6_firstBehind : ByteArray := prog_8_method_68_code
def yX6_firstBehind : MethodName := ⟨RX6, "firstBehind", "()I"⟩
abbrev cX6_chance : ByteArray := prog_8_method_69_code
def yX6_chance : MethodName := ⟨RX6, "chance", "(II)I"⟩
abbrev cX6_dare : ByteArray := prog_8_method_70_code
def yX6_dare : MethodName := ⟨RX6, "dare", "(II)J"⟩
abbrev cX6_see : ByteArray := prog_8_method_71_code
def yX6_see : MethodName := ⟨RX6, "see", "(II)I"⟩
abbrev cX6_forget : ByteArray := prog_8_method_72_code
def yX6_forget : MethodName := ⟨RX6, "forget", "(I)I"⟩
abbrev cX6_isAsSeen : ByteArray := prog_8_method_73_code
def yX6_isAsSeen : MethodName := ⟨RX6, "isAsSeen", "(I)Z"⟩
abbrev cX6_fits : ByteArray := prog_8_method_74_code
def yX6_fits : MethodName := ⟨RX6, "fits", "(I)I"⟩
abbrev cX6_could : ByteArray := prog_8_method_75_code
def yX6_could : MethodName := ⟨RX6, "could", "()I"⟩
abbrev cX6_drift : ByteArray := prog_8_method_76_code
def yX6_drift : MethodName := ⟨RX6, "drift", "(II)I"⟩
abbrev cX6_keep : ByteArray := prog_8_method_77_code
def yX6_keep : MethodName := ⟨RX6, "keep", "(I)I"⟩
abbrev cX6_back : ByteArray := prog_8_method_78_code
def yX6_back : MethodName := ⟨RX6, "back", "(I)I"⟩
abbrev cX6_sheet : ByteArray := prog_8_method_79_code
def yX6_sheet : MethodName := ⟨RX6, "sheet", "(III)I"⟩
abbrev cX6_lay : ByteArray := prog_8_method_80_code
def yX6_lay : MethodName := ⟨RX6, "lay", "(III)I"⟩
abbrev cX6_read : ByteArray := prog_8_method_81_code
def yX6_read : MethodName := ⟨RX6, "read", "(IIII)I"⟩
abbrev cX6_torn : ByteArray := prog_8_method_82_code
def yX6_torn : MethodName := ⟨RX6, "torn", "()I"⟩
abbrev cX6_count : ByteArray := prog_8_method_83_code
def yX6_count : MethodName := ⟨RX6, "count", "(I)I"⟩
def RJ6 : String := "java/lang/Integer"
def TJ6 : u_T := fun k => match k with
  | _ => ("", "", "", false)
def tyJ6 : Nat → FieldType := fun k => match k with
  | _ => .int
theorem nmJ6 : ∀ a, a < 0 → ∀ b, b < 0 → a ≠ b → (TJ6 a).2.1 ≠ (TJ6 b).2.1 := by decide +kernel
theorem tyJ6_ok : ∀ k, k < 0 → parseFieldDescriptor (TJ6 k).2.2.1 = some (tyJ6 k) := by decide +kernel
abbrev cJ6_numberOfTrailingZeros_0f7a4 : ByteArray := prog_9_method_48_code
def yJ6_numberOfTrailingZeros_0f7a4 : MethodName := ⟨RJ6, "numberOfTrailingZeros", "(I)I"⟩
abbrev cJ6_bitCount_0f7a4 : ByteArray := prog_9_method_49_code
def yJ6_bitCount_0f7a4 : MethodName := ⟨RJ6, "bitCount", "(I)I"⟩
def RJ9 : String := "java/lang/Math"
def TJ9 : u_T := fun k => match k with
  | _ => ("", "", "", false)
def tyJ9 : Nat → FieldType := fun k => match k with
  | _ => .int
theorem nmJ9 : ∀ a, a < 0 → ∀ b, b < 0 → a ≠ b → (TJ9 a).2.1 ≠ (TJ9 b).2.1 := by decide +kernel
theorem tyJ9_ok : ∀ k, k < 0 → parseFieldDescriptor (TJ9 k).2.2.1 = some (tyJ9 k) := by decide +kernel
abbrev cJ9_max_7cf53 : ByteArray := prog_10_method_65_code
def yJ9_max_7cf53 : MethodName := ⟨RJ9, "max", "(II)I"⟩
abbrev cJ9_max_f86c9 : ByteArray := prog_10_method_66_code
def yJ9_max_f86c9 : MethodName := ⟨RJ9, "max", "(JJ)J"⟩
abbrev cJ9_min_7cf53 : ByteArray := prog_10_method_69_code
def yJ9_min_7cf53 : MethodName := ⟨RJ9, "min", "(II)I"⟩
def RJ0 : String := "java/lang/String"
def TJ0 : u_T := fun k => match k with
  | _ => ("", "", "", false)
def tyJ0 : Nat → FieldType := fun k => match k with
  | _ => .int
theorem nmJ0 : ∀ a, a < 0 → ∀ b, b < 0 → a ≠ b → (TJ0 a).2.1 ≠ (TJ0 b).2.1 := by decide +kernel
theorem tyJ0_ok : ∀ k, k < 0 → parseFieldDescriptor (TJ0 k).2.2.1 = some (tyJ0 k) := by decide +kernel
abbrev cJ0_length_8abf5 : ByteArray := prog_11_method_54_code
def yJ0_length_8abf5 : MethodName := ⟨RJ0, "length", "()I"⟩
abbrev cJ0_charAt_5068e : ByteArray := prog_11_method_56_code
def yJ0_charAt_5068e : MethodName := ⟨RJ0, "charAt", "(I)C"⟩
abbrev cJ0_coder_7d493 : ByteArray := prog_11_method_152_code
def yJ0_coder_7d493 : MethodName := ⟨RJ0, "coder", "()B"⟩
abbrev cJ0_isLatin1_aae02 : ByteArray := prog_11_method_154_code
def yJ0_isLatin1_aae02 : MethodName := ⟨RJ0, "isLatin1", "()Z"⟩
abbrev cJ0_checkIndex_df160 : ByteArray := prog_11_method_155_code
def yJ0_checkIndex_df160 : MethodName := ⟨RJ0, "checkIndex", "(II)V"⟩
def RJ1 : String := "java/lang/StringLatin1"
def TJ1 : u_T := fun k => match k with
  | _ => ("", "", "", false)
def tyJ1 : Nat → FieldType := fun k => match k with
  | _ => .int
theorem nmJ1 : ∀ a, a < 0 → ∀ b, b < 0 → a ≠ b → (TJ1 a).2.1 ≠ (TJ1 b).2.1 := by decide +kernel
theorem tyJ1_ok : ∀ k, k < 0 → parseFieldDescriptor (TJ1 k).2.2.1 = some (tyJ1 k) := by decide +kernel
abbrev cJ1_charAt_3b067 : ByteArray := prog_12_method_2_code
def yJ1_charAt_3b067 : MethodName := ⟨RJ1, "charAt", "([BI)C"⟩
def RJ2 : String := "java/lang/StringUTF16"
def TJ2 : u_T := fun k => match k with
  | _ => ("", "", "", false)
def tyJ2 : Nat → FieldType := fun k => match k with
  | _ => .int
theorem nmJ2 : ∀ a, a < 0 → ∀ b, b < 0 → a ≠ b → (TJ2 a).2.1 ≠ (TJ2 b).2.1 := by decide +kernel
theorem tyJ2_ok : ∀ k, k < 0 → parseFieldDescriptor (TJ2 k).2.2.1 = some (tyJ2 k) := by decide +kernel
abbrev cJ2_getChar_3b067 : ByteArray := prog_13_method_5_code
def yJ2_getChar_3b067 : MethodName := ⟨RJ2, "getChar", "([BI)C"⟩
abbrev cJ2_length_9d52b : ByteArray := prog_13_method_6_code
def yJ2_length_9d52b : MethodName := ⟨RJ2, "length", "([B)I"⟩
abbrev cJ2_charAt_3b067 : ByteArray := prog_13_method_83_code
def yJ2_charAt_3b067 : MethodName := ⟨RJ2, "charAt", "([BI)C"⟩
abbrev cJ2_checkIndex_2214a : ByteArray := prog_13_method_91_code
def yJ2_checkIndex_2214a : MethodName := ⟨RJ2, "checkIndex", "(I[B)V"⟩
def RJ10 : String := "java/lang/System"
def TJ10 : u_T := fun k => match k with
  | _ => ("", "", "", false)
def tyJ10 : Nat → FieldType := fun k => match k with
  | _ => .int
theorem nmJ10 : ∀ a, a < 0 → ∀ b, b < 0 → a ≠ b → (TJ10 a).2.1 ≠ (TJ10 b).2.1 := by decide +kernel
theorem tyJ10_ok : ∀ k, k < 0 → parseFieldDescriptor (TJ10 k).2.2.1 = some (tyJ10 k) := by decide +kernel
def RJ3 : String := "jdk/internal/util/Preconditions"
def TJ3 : u_T := fun k => match k with
  | _ => ("", "", "", false)
def tyJ3 : Nat → FieldType := fun k => match k with
  | _ => .int
theorem nmJ3 : ∀ a, a < 0 → ∀ b, b < 0 → a ≠ b → (TJ3 a).2.1 ≠ (TJ3 b).2.1 := by decide +kernel
theorem tyJ3_ok : ∀ k, k < 0 → parseFieldDescriptor (TJ3 k).2.2.1 = some (tyJ3 k) := by decide +kernel
abbrev cJ3_checkIndex_8e157 : ByteArray := prog_15_method_11_code
def yJ3_checkIndex_8e157 : MethodName := ⟨RJ3, "checkIndex", "(IILjava/util/function/BiFunction;)I"⟩
def RL : String := "BehindTractorLaw"
abbrev cL_law : ByteArray := code
def yL_law : MethodName := ⟨RL, "law", "([I)Z"⟩
end
section
/-! THE ABSTRACT MACHINE: cells by number, M and N what they hold, one instruction as a predicate transformer -/
abbrev bt_M : Type := Nat → Nat → Int32
abbrev bt_N : Type := Nat → Nat → Int64
abbrev bt_L : Type := List (Option Value)
abbrev bt_R : Type := Option Value → bt_M → bt_N → Prop
abbrev bt_Sp : Type := List Value → bt_M → bt_N → bt_R → Prop
abbrev bt_E : Type := Nat × Instr × Nat × List (Int32 × Nat) × Int32 × Int64
abbrev bt_C : Type := List (Nat × Nat × Nat × bt_Sp)
abbrev bt_F : Type := List (Nat × Nat × Nat)
/-- the tables' words that stay -/
def bt_big : List Cond := lw_tbl.filter goodWord
theorem bt_bigG : ∀ w ∈ bt_big, goodWord w = true := fun _ h => (List.mem_filter.mp h).2
theorem bt_bigI {w : Cond} (h : w ∈ bt_big) : w ∈ lw_tbl := (List.mem_filter.mp h).1
theorem bt_bigM {w : Cond} (h : w ∈ lw_tbl) (hg : goodWord w = true) : w ∈ bt_big := List.mem_filter.mpr ⟨h, hg⟩
theorem bt_bigN {w : Cond} (i : Nat) (h : lw_tbl[i]? = some w) (hg : goodWord w = true) : w ∈ bt_big := bt_bigM (List.mem_of_getElem? h) hg
/-! THE SHAPE -/
abbrev bt_cl : List vw_C := [(RX0, TX0, 11), (RX1, TX1, 4), (RX2, TX2, 3), (RX3, TX3, 14), (RX4, TX4, 18), (RX5, TX5, 12), (RX6, TX6, 27)]
def bt_at {α : Type} : List α → Nat → α → α
  | [], _, d => d
  | x :: _, 0, _ => x
  | _ :: t, n + 1, d => bt_at t n d
/-- kind (0 an object, 1 an array), class or type of its elements, length -/
def bt_shl : List (Nat × Nat × Nat) := [
  (0, 5, 0), (1, 2, 160),
  (0, 4, 0), (1, 0, 8), (1, 0, 8), (1, 0, 8), (1, 0, 8), (1, 0, 6), (1, 0, 6), (1, 0, 6), (1, 0, 6),
  (0, 4, 0), (1, 0, 8), (1, 0, 8), (1, 0, 8), (1, 0, 8), (1, 0, 6), (1, 0, 6), (1, 0, 6), (1, 0, 6),
  (0, 3, 0),
  (1, 4, 2),
  (0, 4, 0), (1, 0, 8), (1, 0, 8), (1, 0, 8), (1, 0, 8), (1, 0, 6), (1, 0, 6), (1, 0, 6), (1, 0, 6),
  (0, 4, 0), (1, 0, 8), (1, 0, 8), (1, 0, 8), (1, 0, 8), (1, 0, 6), (1, 0, 6), (1, 0, 6), (1, 0, 6),
  (1, 5, 4),
  (0, 2, 0), (1, 0, 40), (0, 2, 0), (1, 0, 40), (0, 2, 0), (1, 0, 40), (0, 2, 0), (1, 0, 40),
  (0, 0, 0), (1, 0, 6), (1, 0, 6), (1, 0, 9), (1, 0, 9), (1, 6, 9),
  (1, 0, 6), (1, 0, 6), (1, 0, 6), (1, 0, 6), (1, 0, 6), (1, 0, 6), (1, 0, 6), (1, 0, 6), (1, 0, 6),
  (0, 1, 0), (1, 1, 64), (1, 1, 64),
  (0, 6, 0), (1, 0, 540), (1, 0, 90), (1, 0, 7), (1, 0, 160), (1, 0, 13), (1, 0, 51), (1, 0, 12), (1, 3, 2), (1, 0, 4), (1, 0, 4), (1, 0, 160)]
def bt_sh (c : Nat) : Nat × Nat × Nat := bt_at bt_shl c (9, 0, 0)
/-- the kinds of fields: 0 int, 1 long, 2 a reference -/
def bt_fts : List (List Nat) := [
  [2, 2, 2, 2, 2, 0, 0, 0, 0, 0, 0], [2, 2, 1, 0], [2, 0, 0], [2, 2, 0, 0, 0, 0, 0, 0, 0, 0, 0, 0, 0, 0],
  [2, 2, 2, 2, 2, 2, 2, 2, 0, 0, 0, 0, 0, 0, 0, 0, 0, 0], [2, 2, 2, 2, 2, 2, 2, 2, 0, 0, 0, 0],
  [2, 0, 0, 2, 0, 0, 0, 2, 0, 2, 0, 0, 0, 0, 0, 0, 0, 0, 2, 2, 2, 0, 2, 2, 2, 2, 0]]
def bt_ft (ci k : Nat) : Nat := bt_at (bt_at bt_fts ci []) k 9
def bt_nfs : List Nat := [11, 4, 3, 14, 18, 12, 27]
def bt_nf (ci : Nat) : Nat := bt_at bt_nfs ci 0
/-- what references a cell holds -/
def bt_rfl : List (List Nat) := [[1, 2, 11, 20, 21, 40, 49, 64], [], [3, 4, 5, 6, 7, 8, 9, 10], [], [], [], [], [], [], [], [], [12, 13, 14, 15, 16, 17, 18, 19], [], [], [], [], [], [], [], [], [1, 11], [], [23, 24, 25, 26, 27, 28, 29, 30], [], [], [], [], [], [], [], [], [32, 33, 34, 35, 36, 37, 38, 39], [], [], [], [], [], [], [], [], [], [42], [], [44], [], [46], [], [48], [], [50, 51, 52, 53, 54], [], [], [], [], [], [], [], [], [], [], [], [], [], [], [65, 66], [], [], [68, 0, 0, 69, 0, 0, 0, 70, 0, 71, 0, 0, 0, 0, 0, 0, 0, 0, 72, 73, 74, 0, 75, 76, 77, 78, 0]]
def bt_rf (c k : Nat) : Nat := match c with
  | 21 => 22 + 9 * k
  | 40 => 41 + 2 * k
  | 54 => 55 + k
  | c => bt_at (bt_at bt_rfl c []) k 0
def bt_atk : List Nat → Nat → (Nat → Prop) → Prop
  | [], _, k => k 0
  | x :: _, 0, k => k x
  | _ :: t, n + 1, k => bt_atk t n k
def bt_tr (ad fa : Nat → Nat) : Value → Value
  | .ref c => .ref (ad c)
  | .retAddr n => .ref (fa n)
  | v => v
/-! ONE INSTRUCTION -/
def bt_k1i (st : List Value) (k : Int32 → List Value → Prop) : Prop := match st with
  | .int a :: r => k a r
  | _ => False
def bt_k2i (st : List Value) (k : Int32 → Int32 → List Value → Prop) : Prop := match st with
  | .int b :: .int a :: r => k a b r
  | _ => False
def bt_k1l (st : List Value) (k : Int64 → List Value → Prop) : Prop := match st with
  | .long a :: r => k a r
  | _ => False
def bt_k2l (st : List Value) (k : Int64 → Int64 → List Value → Prop) : Prop := match st with
  | .long b :: .long a :: r => k a b r
  | _ => False
def bt_kr (st : List Value) (k : Nat → List Value → Prop) : Prop := match st with
  | .ref c :: r => k c r
  | _ => False
def bt_kir (st : List Value) (k : Int32 → Nat → List Value → Prop) (kx : Int32 → List Value → Prop) : Prop := match st with
  | .int i :: .ref c :: r => k i c r
  | .int i :: .retAddr 0 :: r => kx i r
  | _ => False
def bt_kxir (st : List Value) (k : Int32 → Int32 → Nat → List Value → Prop) : Prop := match st with
  | .int x :: .int i :: .ref c :: r => k x i c r
  | _ => False
def bt_klir (st : List Value) (k : Int64 → Int32 → Nat → List Value → Prop) : Prop := match st with
  | .long x :: .int i :: .ref c :: r => k x i c r
  | _ => False
def bt_c1 : Value → Bool
  | .long _ => false
  | .double _ => false
  | _ => true
def bt_k1 (st : List Value) (k : Value → List Value → Prop) : Prop := match st with
  | v :: r => (match bt_c1 v with
    | true => k v r
    | false => False)
  | _ => False
def bt_k2 (st : List Value) (k : Value → Value → List Value → Prop) : Prop := match st with
  | v :: w :: r => (match bt_c1 v, bt_c1 w with
    | true, true => k v w r
    | _, _ => False)
  | _ => False
def bt_lg : bt_L → Nat → (Value → Prop) → Prop
  | [], _, _ => False
  | x :: _, 0, k => (match x with
    | some v => k v
    | none => False)
  | _ :: t, n + 1, k => bt_lg t n k
def bt_li (L : bt_L) (i : Nat) (k : Int32 → Prop) : Prop := bt_lg L i (fun v => match v with
  | .int x => k x
  | _ => False)
def bt_ll (L : bt_L) (i : Nat) (k : Int64 → Prop) : Prop := bt_lg L i (fun v => match v with
  | .long x => k x
  | _ => False)
def bt_la (L : bt_L) (i : Nat) (k : Value → Prop) : Prop := bt_lg L i (fun v => match v with
  | .ref x => k (.ref x)
  | .retAddr x => k (.retAddr x)
  | _ => False)
def bt_o1 : Option Value → Bool
  | some v => bt_c1 v
  | none => true
/-- storing a value of one slot -/
def bt_ls : bt_L → Nat → Value → (bt_L → Prop) → Prop
  | [], _, _, _ => False
  | _ :: t, 0, v, k => k (some v :: t)
  | x :: t, 1, v, k => (match bt_o1 x, t with
    | true, _ :: t' => k (x :: some v :: t')
    | _, _ => False)
  | x :: t, n + 2, v, k => bt_ls t (n + 1) v (fun t' => k (x :: t'))
/-- storing a long -/
def bt_ls2 : bt_L → Nat → Value → (bt_L → Prop) → Prop
  | [], _, _, _ => False
  | _ :: t, 0, v, k => (match t with
    | _ :: t' => k (some v :: none :: t')
    | _ => False)
  | x :: t, 1, v, k => (match bt_o1 x, t with
    | true, _ :: _ :: t' => k (x :: some v :: none :: t')
    | _, _ => False)
  | x :: t, n + 2, v, k => bt_ls2 t (n + 1) v (fun t' => k (x :: t'))
/-- a place of an array of a type -/
def bt_ix (t c : Nat) (i : Int32) (k : Nat → Prop) : Prop := ∃ n, bt_sh c = (1, t, n) ∧ ∃ j, i = nI j ∧ j < n ∧ k j
def bt_fl : bt_F → Nat → (Nat → Nat → Prop) → Prop
  | [], _, _ => False
  | (a, ci, f) :: t, i, k => (match Nat.beq a i with
    | true => k ci f
    | false => bt_fl t i k)
/-- a field of an object of the class -/
def bt_ob (c ci : Nat) (k : Prop) : Prop := match bt_sh c with
  | (0, ci', _) => (match Nat.beq ci' ci with
    | true => k
    | false => False)
  | _ => False
def bt_gf (ci f c : Nat) (M : bt_M) (N : bt_N) (k : Value → Prop) : Prop := match bt_ft ci f with
  | 0 => k (.int (M c f))
  | 1 => k (.long (N c f))
  | 2 => bt_atk (bt_at bt_rfl c []) f (fun r => k (.ref r))
  | _ => False
def bt_pf (FL : bt_F) (i : Nat) (st : List Value) (M : bt_M) (N : bt_N) (k : List Value → bt_M → bt_N → Prop) : Prop := match st with
  | .int x :: .ref c :: r => bt_fl FL i (fun ci f => bt_ob c ci (match bt_ft ci f with
    | 0 => ∀ M', M' = va_up M c (upd (M c) f x) → k r M' N
    | _ => False))
  | .long x :: .ref c :: r => bt_fl FL i (fun ci f => bt_ob c ci (match bt_ft ci f with
    | 1 => ∀ N', N' = va_up N c (vp_updL (N c) f x) → k r M N'
    | _ => False))
  | _ => False
def bt_pop : Nat → List Value → List Value → (List Value → List Value → Prop) → Prop
  | 0, st, acc, k => k acc st
  | n + 1, v :: st, acc, k => bt_pop n st (v :: acc) k
  | _ + 1, [], _, _ => False
def bt_sum : List Value → Nat
  | [] => 0
  | v :: r => (match bt_c1 v with
    | true => bt_sum r + 1
    | false => bt_sum r + 2)
def bt_res (r : Option Value) (st : List Value) (k : List Value → Prop) : Prop := match r with
  | none => k st
  | some v => k (v :: st)
def bt_do (na : Nat) (sp : bt_Sp) (st : List Value) (M : bt_M) (N : bt_N) (k : List Value → bt_M → bt_N → Prop) : Prop :=
  bt_pop na st [] (fun as r => (match Nat.ble (bt_sum r) 8 with
    | true => sp as M N (fun v M' N' => bt_res v r (fun st' => k st' M' N'))
    | false => False))
def bt_call : bt_C → Nat → Nat → List Value → bt_M → bt_N → (List Value → bt_M → bt_N → Prop) → Prop
  | [], _, _, _, _, _, _ => False
  | (a, kd, na, sp) :: t, i, kj, st, M, N, k => (match Nat.beq a i with
    | true => (match Nat.beq kd kj with
      | true => bt_do na sp st M N k
      | false => False)
    | false => bt_call t i kj st M N k)
def bt_sw (x : Int32) : List (Int32 × Nat) → (Nat → Prop) → Prop → Prop
  | [], _, d => d
  | (a, t) :: r, k, d => (x = a → k t) ∧ (¬ x = a → bt_sw x r k d)
def bt_tg (tg : List (Int32 × Nat)) (k : Nat → Prop) : Prop := match tg with
  | (_, t) :: _ => k t
  | [] => False
def bt_if (b : ClassFile.Cond) (x y : Int32) (kt kf : Prop) : Prop := match b with
  | .eq => (x = y → kt) ∧ (¬ x = y → kf)
  | .ne => (¬ x = y → kt) ∧ (x = y → kf)
  | .lt => (x < y → kt) ∧ (¬ x < y → kf)
  | .ge => (y ≤ x → kt) ∧ (¬ y ≤ x → kf)
  | .gt => (y < x → kt) ∧ (¬ y < x → kf)
  | .le => (x ≤ y → kt) ∧ (¬ x ≤ y → kf)
def bt_ir (rt : Nat) (x : Int32) (r : List Value) (k : Prop) : Prop := match r with
  | [] => (match rt with
    | 1 => k
    | 2 => (x = 0 ∨ x = 1) ∧ k
    | _ => False)
  | _ => False
/-- an instruction: FL fields, CT calls, rt the kind of the answer (0 none, 1 int, 2 boolean, 3 long), SL (its length and 1; 0: none) and xs the script; ks goes on behind it, kj elsewhere, Rt the answer -/
def bt_wp1 (FL : bt_F) (CT : bt_C) (rt SL : Nat) (xs : Nat → Int32) (Rt : bt_R) (e : bt_E) (L : bt_L) (st : List Value) (M : bt_M) (N : bt_N)
    (ks : bt_L → List Value → bt_M → bt_N → Prop) (kj : Nat → bt_L → List Value → bt_M → bt_N → Prop) : Prop := match e with
  | (_, I, _, tg, ci, cl) => match I with
  | .iconst _ => ks L (.int ci :: st) M N
  | .bipush _ => ks L (.int ci :: st) M N
  | .sipush _ => ks L (.int ci :: st) M N
  | .lconst _ => ks L (.long cl :: st) M N
  | .ldc _ => (match tg with
    | [] => ks L (.int ci :: st) M N
    | (_, j) :: _ => ks L (.retAddr (j + 1) :: st) M N)
  | .ldc_w _ => ks L (.int ci :: st) M N
  | .ldc2_w _ => ks L (.long cl :: st) M N
  | .iload_n k => bt_li L k.val (fun x => ks L (.int x :: st) M N)
  | .iload k => bt_li L k (fun x => ks L (.int x :: st) M N)
  | .lload_n k => bt_ll L k.val (fun x => ks L (.long x :: st) M N)
  | .lload k => bt_ll L k (fun x => ks L (.long x :: st) M N)
  | .aload_n k => bt_la L k.val (fun x => ks L (x :: st) M N)
  | .aload k => bt_la L k (fun x => ks L (x :: st) M N)
  | .istore_n k => bt_k1i st (fun x r => bt_ls L k.val (.int x) (fun L' => ks L' r M N))
  | .istore k => bt_k1i st (fun x r => bt_ls L k (.int x) (fun L' => ks L' r M N))
  | .lstore_n k => bt_k1l st (fun x r => bt_ls2 L k.val (.long x) (fun L' => ks L' r M N))
  | .lstore k => bt_k1l st (fun x r => bt_ls2 L k (.long x) (fun L' => ks L' r M N))
  | .astore_n k => bt_kr st (fun x r => bt_ls L k.val (.ref x) (fun L' => ks L' r M N))
  | .astore k => bt_kr st (fun x r => bt_ls L k (.ref x) (fun L' => ks L' r M N))
  | .iinc k _ => bt_li L k (fun x => bt_ls L k (.int (x + ci)) (fun L' => ks L' st M N))
  | .iadd => bt_k2i st (fun a b r => ks L (.int (a + b) :: r) M N)
  | .isub => bt_k2i st (fun a b r => ks L (.int (a - b) :: r) M N)
  | .imul => bt_k2i st (fun a b r => ks L (.int (a * b) :: r) M N)
  | .iand => bt_k2i st (fun a b r => ks L (.int (a &&& b) :: r) M N)
  | .ior => bt_k2i st (fun a b r => ks L (.int (a ||| b) :: r) M N)
  | .ixor => bt_k2i st (fun a b r => ks L (.int (a ^^^ b) :: r) M N)
  | .irem => bt_k2i st (fun a b r => ¬ b = 0 ∧ ks L (.int (a - a / b * b) :: r) M N)
  | .ishl => bt_k2i st (fun a b r => ks L (.int (a <<< (b &&& 31)) :: r) M N)
  | .ishr => bt_k2i st (fun a b r => ks L (.int (a >>> (b &&& 31)) :: r) M N)
  | .iushr => bt_k2i st (fun a b r => ks L (.int (a.toUInt32 >>> (b.toUInt32 &&& Int32.toUInt32 31)).toInt32 :: r) M N)
  | .i2l => bt_k1i st (fun a r => ks L (.long a.toInt64 :: r) M N)
  | .i2b => bt_k1i st (fun a r => ks L (.int a.toInt8.toInt32 :: r) M N)
  | .i2s => bt_k1i st (fun a r => ks L (.int a.toInt16.toInt32 :: r) M N)
  | .ladd => bt_k2l st (fun a b r => ks L (.long (a + b) :: r) M N)
  | .lsub => bt_k2l st (fun a b r => ks L (.long (a - b) :: r) M N)
  | .lmul => bt_k2l st (fun a b r => ks L (.long (a * b) :: r) M N)
  | .ldiv => bt_k2l st (fun a b r => ¬ b = 0 ∧ ks L (.long (a / b) :: r) M N)
  | .lrem => bt_k2l st (fun a b r => ¬ b = 0 ∧ ks L (.long (a - a / b * b) :: r) M N)
  | .lneg => bt_k1l st (fun a r => ks L (.long (-a) :: r) M N)
  | .lcmp => bt_k2l st (fun a b r => ks L (.int (lg_cmp a b) :: r) M N)
  | .dup => bt_k1 st (fun v r => ks L (v :: v :: r) M N)
  | .pop => bt_k1 st (fun _ r => ks L r M N)
  | .dup2 => bt_k2 st (fun v w r => ks L (v :: w :: v :: w :: r) M N)
  | .goto _ => bt_tg tg (fun t => kj t L st M N)
  | .if_icmp b _ => bt_k2i st (fun x y r => bt_tg tg (fun t => bt_if b x y (kj t L r M N) (ks L r M N)))
  | .ifCond b _ => bt_k1i st (fun x r => bt_tg tg (fun t => bt_if b x 0 (kj t L r M N) (ks L r M N)))
  | .tableswitch _ _ _ _ => bt_k1i st (fun x r => (match tg with
    | (_, d) :: ts => bt_sw x ts (fun t => kj t L r M N) (kj d L r M N)
    | [] => False))
  | .iaload => bt_kir st (fun i c r => bt_ix 0 c i (fun j => ks L (.int (M c j) :: r) M N)) (fun i r => ∃ j, i = nI j ∧ j + 1 < SL ∧ ks L (.int (xs j) :: r) M N)
  | .baload => bt_kir st (fun i c r => (match (bt_sh c).2.1 with
    | 2 => bt_ix 2 c i (fun j => ks L (.int (M c j) :: r) M N)
    | 3 => bt_ix 3 c i (fun j => ks L (.int (M c j) :: r) M N)
    | _ => False)) (fun _ _ => False)
  | .laload => bt_kir st (fun i c r => bt_ix 1 c i (fun j => ks L (.long (N c j) :: r) M N)) (fun _ _ => False)
  | .aaload => bt_kir st (fun i c r => (match (bt_sh c).2.1 with
    | 4 => bt_ix 4 c i (fun j => ks L (.ref (bt_rf c j) :: r) M N)
    | 5 => bt_ix 5 c i (fun j => ks L (.ref (bt_rf c j) :: r) M N)
    | 6 => bt_ix 6 c i (fun j => ks L (.ref (bt_rf c j) :: r) M N)
    | _ => False)) (fun _ _ => False)
  | .iastore => bt_kxir st (fun x i c r => bt_ix 0 c i (fun j => ∀ M', M' = va_up M c (upd (M c) j x) → ks L r M' N))
  | .bastore => bt_kxir st (fun x i c r => (match (bt_sh c).2.1 with
    | 2 => bt_ix 2 c i (fun j => ∀ M', M' = va_up M c (upd (M c) j x.toInt8.toInt32) → ks L r M' N)
    | 3 => bt_ix 3 c i (fun j => ∀ M', M' = va_up M c (upd (M c) j (x &&& 1)) → ks L r M' N)
    | _ => False))
  | .lastore => bt_klir st (fun x i c r => bt_ix 1 c i (fun j => ∀ N', N' = va_up N c (vp_updL (N c) j x) → ks L r M N'))
  | .arraylength => (match st with
    | .retAddr 0 :: r => (match SL with
      | 0 => False
      | S + 1 => ks L (.int (nI S) :: r) M N)
    | _ => False)
  | .getfield i => bt_kr st (fun c r => bt_fl FL i (fun ci f => bt_ob c ci (bt_gf ci f c M N (fun v => ks L (v :: r) M N))))
  | .putfield i => bt_pf FL i st M N (fun r M' N' => ks L r M' N')
  | .invokestatic i => bt_call CT i 0 st M N (fun r M' N' => ks L r M' N')
  | .invokevirtual i => bt_call CT i 1 st M N (fun r M' N' => ks L r M' N')
  | .ireturn => bt_k1i st (fun x r => bt_ir rt x r (Rt (some (.int x)) M N))
  | .lreturn => bt_k1l st (fun x r => (match r, rt with
    | [], 3 => Rt (some (.long x)) M N
    | _, _ => False))
  | .return_ => (match st, rt with
    | [], 0 => Rt none M N
    | _, _ => False)
  | _ => False
def bt_suf : List bt_E → Nat → List bt_E
  | [], _ => []
  | e :: r, t => (match Nat.beq e.1 t with
    | true => e :: r
    | false => bt_suf r t)
def bt_el : List Nat → Nat → Bool
  | [], _ => false
  | a :: r, t => (match Nat.beq a t with
    | true => true
    | false => bt_el r t)
/-- the code from here on, up to the stops -/
def bt_wp (T : List bt_E) (FL : bt_F) (CT : bt_C) (rt SL : Nat) (xs : Nat → Int32) (Rt : bt_R) (S : List Nat) (K : Nat → bt_L → List Value → bt_M → bt_N → Prop) : Nat → List bt_E → bt_L → List Value → bt_M → bt_N → Prop
  | 0, _, _, _, _, _ => False
  | _ + 1, [], _, _, _, _ => False
  | n + 1, e :: is, L, st, M, N => bt_wp1 FL CT rt SL xs Rt e L st M N
      (fun L' st' M' N' => (match is with
        | [] => False
        | e' :: _ => (match bt_el S e'.1 with
          | true => K e'.1 L' st' M' N'
          | false => bt_wp T FL CT rt SL xs Rt S K n is L' st' M' N')))
      (fun t L' st' M' N' => (match bt_el S t with
          | true => K t L' st' M' N'
          | false => bt_wp T FL CT rt SL xs Rt S K n (bt_suf T t) L' st' M' N'))
end
section
/-! A CODE TABLE IS THE CODE -/
def bt_strs : List (String × Nat × String) := [("BehindTractor$Teller", 107, "road"), ("BehindTractor$Teller", 116, "car"), ("BehindTractor$Teller", 184, "never"), ("BehindTractor$Teller", 186, "one"), ("BehindTractor$Teller", 188, "bold"), ("BehindTractor$Teller", 190, "follow"), ("BehindTractor$Teller", 192, "timid"), ("BehindTractor$Teller", 121, "slow"), ("BehindTractor$Teller", 126, "odds"), ("BehindTractor$Teller", 135, "hill"), ("BehindTractor$Teller", 140, "layby"), ("BehindTractor$Teller", 142, "lane")]
def bt_swok (pc : Nat) (lo : Int) : List (Int32 × Nat) → List Int → Bool
  | [], [] => true
  | (a, t) :: r, o :: os => decide (a.toInt = lo) && decide ((pc : Int) + o = (t : Int)) && bt_swok pc (lo + 1) r os
  | _, _ => false
def bt_tgok (pc : Nat) (o : Int) (tg : List (Int32 × Nat)) : Bool := match tg with
  | (_, t) :: _ => decide ((pc : Int) + o = (t : Int))
  | [] => false
def bt_ok2 (own : String) (e : bt_E) : Bool := match e.2.1 with
  | .iconst n => decide (Int32.ofInt n = e.2.2.2.2.1) && e.2.2.1 == 1
  | .bipush n => decide ((Int8.ofInt n).toInt32 = e.2.2.2.2.1) && e.2.2.1 == 2
  | .sipush n => decide ((Int16.ofInt n).toInt32 = e.2.2.2.2.1) && e.2.2.1 == 3
  | .lconst n => decide (Int64.ofNat (n : Nat) = e.2.2.2.2.2) && e.2.2.1 == 1
  | .iinc _ n => decide (Int32.ofInt n = e.2.2.2.2.1) && e.2.2.1 == 3
  | .goto o => bt_tgok e.1 o e.2.2.2.1 && e.2.2.1 == 3
  | .if_icmp _ o => bt_tgok e.1 o e.2.2.2.1 && e.2.2.1 == 3
  | .ifCond _ o => bt_tgok e.1 o e.2.2.2.1 && e.2.2.1 == 3
  | .tableswitch d lo hi offs => (match e.2.2.2.1 with
    | (_, t) :: ts => decide ((e.1 : Int) + d = (t : Int)) && bt_swok e.1 lo ts offs.toList && decide (hi = lo + ts.length - 1)
    | [] => false)
  | .ldc i => (match e.2.2.2.1 with
    | [] => decide (Cond.constant own i e.2.2.2.2.1 ∈ bt_big) && e.2.2.1 == 2
    | (_, j) :: _ => (match bt_strs[j]? with
      | some q => decide (q.1 = own) && decide (q.2.1 = i) && e.2.2.1 == 2
      | none => false))
  | .ldc_w i => decide (Cond.constant own i e.2.2.2.2.1 ∈ bt_big) && e.2.2.1 == 3
  | .ldc2_w i => decide (Cond.constantLong own i e.2.2.2.2.2 ∈ bt_big) && e.2.2.1 == 3
  | .iload _ => e.2.2.1 == 2
  | .lload _ => e.2.2.1 == 2
  | .aload _ => e.2.2.1 == 2
  | .istore _ => e.2.2.1 == 2
  | .lstore _ => e.2.2.1 == 2
  | .astore _ => e.2.2.1 == 2
  | .getfield _ => e.2.2.1 == 3
  | .putfield _ => e.2.2.1 == 3
  | .invokestatic _ => e.2.2.1 == 3
  | .invokevirtual _ => e.2.2.1 == 3
  | .invokespecial _ => e.2.2.1 == 3
  | .new _ => true
  | .newarray _ => true
  | .anewarray _ => true
  | .multianewarray _ _ => true
  | .athrow => true
  | .getstatic _ => true
  | _ => e.2.2.1 == 1
def bt_okE (own : String) (cc : ByteArray) (e : bt_E) : Bool := decide (decode cc e.1 = .ok (e.2.1, e.2.2.1)) && bt_ok2 own e
def bt_adj : List bt_E → Bool
  | [] => true
  | [_] => true
  | a :: b :: t => (a.1 + a.2.2.1 == b.1) && bt_adj (b :: t)
def bt_okT (own : String) (cc : ByteArray) (T : List bt_E) : Bool := T.all (bt_okE own cc) && bt_adj T
end
section
def bt_FX4 : bt_F := [(9, 4, 0), (15, 4, 1), (18, 4, 2), (21, 4, 3), (24, 4, 4), (27, 4, 5), (30, 4, 6), (33, 4, 7), (40, 4, 8), (43, 4, 9), (46, 4, 10), (49, 4, 11), (52, 4, 12), (55, 4, 13), (36, 4, 14), (58, 4, 15), (61, 4, 16), (64, 4, 17)]
def bt_FX1 : bt_F := [(75, 4, 0), (42, 4, 2), (50, 4, 3), (78, 4, 6), (65, 4, 7), (68, 4, 8), (39, 4, 12), (32, 4, 13), (81, 4, 14), (22, 4, 16), (11, 1, 0), (15, 1, 1), (35, 1, 2), (84, 1, 3)]
def bt_FX5 : bt_F := [(113, 4, 0), (117, 4, 1), (120, 4, 2), (123, 4, 3), (142, 4, 4), (145, 4, 5), (148, 4, 6), (151, 4, 7), (88, 4, 8), (126, 4, 9), (133, 4, 10), (136, 4, 11), (91, 4, 12), (106, 4, 13), (94, 4, 14), (97, 4, 15), (100, 4, 16), (103, 4, 17), (69, 3, 3), (75, 3, 4), (281, 2, 0), (272, 2, 1), (292, 2, 2), (82, 0, 5), (240, 0, 6), (243, 0, 7), (246, 0, 8), (252, 0, 9), (255, 0, 10), (200, 1, 2), (230, 1, 3), (9, 5, 0), (16, 5, 1), (20, 5, 2), (28, 5, 3), (32, 5, 4), (39, 5, 5), (46, 5, 6), (53, 5, 7), (61, 5, 8), (72, 5, 9), (85, 5, 10), (284, 5, 11)]
def bt_FX3 : bt_F := [(151, 4, 0), (155, 4, 1), (158, 4, 2), (161, 4, 3), (175, 4, 4), (178, 4, 5), (181, 4, 6), (65, 4, 8), (72, 4, 9), (75, 4, 10), (78, 4, 11), (169, 4, 12), (163, 4, 14), (166, 4, 15), (9, 3, 0), (15, 3, 1), (19, 3, 2), (28, 3, 3), (31, 3, 4), (34, 3, 5), (56, 3, 6), (81, 3, 7), (88, 3, 8), (37, 3, 9), (40, 3, 10), (43, 3, 11), (46, 3, 12), (49, 3, 13)]
def bt_FX0 : bt_F := [(89, 4, 2), (57, 4, 7), (65, 4, 8), (96, 4, 12), (54, 4, 13), (68, 4, 16), (9, 0, 0), (15, 0, 1), (18, 0, 2), (21, 0, 3), (26, 0, 4), (29, 0, 5), (33, 0, 6), (36, 0, 7), (45, 0, 8), (48, 0, 9), (51, 0, 10)]
def bt_FX2 : bt_F := [(9, 2, 0), (19, 2, 1), (15, 2, 2)]
def bt_FX6 : bt_F := [(7, 6, 0), (130, 6, 1), (133, 6, 2), (13, 6, 3), (107, 6, 4), (100, 6, 5), (118, 6, 6), (16, 6, 7), (97, 6, 8), (19, 6, 9), (50, 6, 10), (127, 6, 11), (54, 6, 12), (60, 6, 13), (66, 6, 14), (57, 6, 15), (63, 6, 16), (73, 6, 17), (22, 6, 18), (25, 6, 19), (28, 6, 20), (136, 6, 21), (31, 6, 22), (35, 6, 23), (38, 6, 24), (41, 6, 25), (264, 6, 26)]
def bt_TX0_add : List bt_E := [
  (0, .aload_n 0, 1, [], 0, 0),
  (1, .getfield 29, 3, [], 0, 0),
  (4, .bipush 6, 2, [], 6, 0),
  (6, .if_icmp .lt 5, 3, [(0, 11)], 0, 0),
  (9, .iconst 0, 1, [], 0, 0),
  (10, .ireturn, 1, [], 0, 0),
  (11, .aload_n 0, 1, [], 0, 0),
  (12, .getfield 9, 3, [], 0, 0),
  (15, .aload_n 0, 1, [], 0, 0),
  (16, .getfield 29, 3, [], 0, 0),
  (19, .iload_n 1, 1, [], 0, 0),
  (20, .iastore, 1, [], 0, 0),
  (21, .aload_n 0, 1, [], 0, 0),
  (22, .getfield 15, 3, [], 0, 0),
  (25, .aload_n 0, 1, [], 0, 0),
  (26, .getfield 29, 3, [], 0, 0),
  (29, .iload_n 2, 1, [], 0, 0),
  (30, .iastore, 1, [], 0, 0),
  (31, .aload_n 0, 1, [], 0, 0),
  (32, .dup, 1, [], 0, 0),
  (33, .getfield 29, 3, [], 0, 0),
  (36, .iconst 1, 1, [], 1, 0),
  (37, .iadd, 1, [], 0, 0),
  (38, .putfield 29, 3, [], 0, 0),
  (41, .iconst 1, 1, [], 1, 0),
  (42, .ireturn, 1, [], 0, 0)]
def bt_TX0_tryAllSets : List bt_E := [
  (0, .aload_n 0, 1, [], 0, 0),
  (1, .iconst 0, 1, [], 0, 0),
  (2, .putfield 33, 3, [], 0, 0),
  (5, .aload_n 0, 1, [], 0, 0),
  (6, .iconst 0, 1, [], 0, 0),
  (7, .putfield 36, 3, [], 0, 0),
  (10, .aload_n 0, 1, [], 0, 0),
  (11, .aload_n 1, 1, [], 0, 0),
  (12, .invokevirtual 39, 3, [], 0, 0),
  (15, .putfield 45, 3, [], 0, 0),
  (18, .aload_n 0, 1, [], 0, 0),
  (19, .iconst 0, 1, [], 0, 0),
  (20, .putfield 48, 3, [], 0, 0),
  (23, .aload_n 0, 1, [], 0, 0),
  (24, .iconst 0, 1, [], 0, 0),
  (25, .putfield 51, 3, [], 0, 0),
  (28, .aload_n 0, 1, [], 0, 0),
  (29, .getfield 18, 3, [], 0, 0),
  (32, .iconst 0, 1, [], 0, 0),
  (33, .aload_n 1, 1, [], 0, 0),
  (34, .getfield 54, 3, [], 0, 0),
  (37, .iastore, 1, [], 0, 0),
  (38, .aload_n 0, 1, [], 0, 0),
  (39, .getfield 21, 3, [], 0, 0),
  (42, .iconst 0, 1, [], 0, 0),
  (43, .iconst 0, 1, [], 0, 0),
  (44, .iastore, 1, [], 0, 0),
  (45, .aload_n 1, 1, [], 0, 0),
  (46, .getfield 57, 3, [], 0, 0),
  (49, .iconst 0, 1, [], 0, 0),
  (50, .aload_n 0, 1, [], 0, 0),
  (51, .getfield 26, 3, [], 0, 0),
  (54, .iconst 0, 1, [], 0, 0),
  (55, .aaload, 1, [], 0, 0),
  (56, .iconst 0, 1, [], 0, 0),
  (57, .bipush 6, 2, [], 6, 0),
  (59, .invokestatic 59, 3, [], 0, 0),
  (62, .aload_n 1, 1, [], 0, 0),
  (63, .getfield 65, 3, [], 0, 0),
  (66, .aload_n 1, 1, [], 0, 0),
  (67, .getfield 68, 3, [], 0, 0),
  (70, .isub, 1, [], 0, 0),
  (71, .istore_n 2, 1, [], 0, 0),
  (72, .iconst 0, 1, [], 0, 0),
  (73, .istore_n 3, 1, [], 0, 0),
  (74, .iload_n 3, 1, [], 0, 0),
  (75, .iconst 1, 1, [], 1, 0),
  (76, .iload_n 2, 1, [], 0, 0),
  (77, .ishl, 1, [], 0, 0),
  (78, .if_icmp .ge 82, 3, [(0, 160)], 0, 0),
  (81, .iload_n 3, 1, [], 0, 0),
  (82, .ifCond .ne 7, 3, [(0, 89)], 0, 0),
  (85, .iconst 0, 1, [], 0, 0),
  (86, .goto 11, 3, [(0, 97)], 0, 0),
  (89, .iload_n 2, 1, [], 0, 0),
  (90, .iconst 1, 1, [], 1, 0),
  (91, .isub, 1, [], 0, 0),
  (92, .iload_n 3, 1, [], 0, 0),
  (93, .invokestatic 71, 3, [], 0, 0),
  (96, .isub, 1, [], 0, 0),
  (97, .istore 4, 2, [], 0, 0),
  (99, .iload 4, 2, [], 0, 0),
  (101, .istore 5, 2, [], 0, 0),
  (103, .iload 5, 2, [], 0, 0),
  (105, .iload_n 2, 1, [], 0, 0),
  (106, .if_icmp .ge 26, 3, [(0, 132)], 0, 0),
  (109, .aload_n 0, 1, [], 0, 0),
  (110, .aload_n 1, 1, [], 0, 0),
  (111, .iload 5, 2, [], 0, 0),
  (113, .iload_n 3, 1, [], 0, 0),
  (114, .iload_n 2, 1, [], 0, 0),
  (115, .iconst 1, 1, [], 1, 0),
  (116, .isub, 1, [], 0, 0),
  (117, .iload 5, 2, [], 0, 0),
  (119, .isub, 1, [], 0, 0),
  (120, .invokestatic 77, 3, [], 0, 0),
  (123, .invokevirtual 81, 3, [], 0, 0),
  (126, .iinc 5 1, 3, [], 1, 0),
  (129, .goto (-26), 3, [(0, 103)], 0, 0),
  (132, .aload_n 0, 1, [], 0, 0),
  (133, .aload_n 0, 1, [], 0, 0),
  (134, .getfield 18, 3, [], 0, 0),
  (137, .iload_n 2, 1, [], 0, 0),
  (138, .iaload, 1, [], 0, 0),
  (139, .aload_n 0, 1, [], 0, 0),
  (140, .getfield 21, 3, [], 0, 0),
  (143, .iload_n 2, 1, [], 0, 0),
  (144, .iaload, 1, [], 0, 0),
  (145, .aload_n 0, 1, [], 0, 0),
  (146, .getfield 26, 3, [], 0, 0),
  (149, .iload_n 2, 1, [], 0, 0),
  (150, .aaload, 1, [], 0, 0),
  (151, .invokevirtual 85, 3, [], 0, 0),
  (154, .iinc 3 1, 3, [], 1, 0),
  (157, .goto (-83), 3, [(0, 74)], 0, 0),
  (160, .return_, 1, [], 0, 0)]
def bt_TX0_goDown : List bt_E := [
  (0, .aload_n 1, 1, [], 0, 0),
  (1, .getfield 68, 3, [], 0, 0),
  (4, .iload_n 2, 1, [], 0, 0),
  (5, .iadd, 1, [], 0, 0),
  (6, .istore 4, 2, [], 0, 0),
  (8, .aload_n 0, 1, [], 0, 0),
  (9, .getfield 18, 3, [], 0, 0),
  (12, .iload_n 2, 1, [], 0, 0),
  (13, .iaload, 1, [], 0, 0),
  (14, .aload_n 1, 1, [], 0, 0),
  (15, .iload 4, 2, [], 0, 0),
  (17, .iload_n 3, 1, [], 0, 0),
  (18, .aload_n 1, 1, [], 0, 0),
  (19, .getfield 89, 3, [], 0, 0),
  (22, .iload 4, 2, [], 0, 0),
  (24, .iaload, 1, [], 0, 0),
  (25, .imul, 1, [], 0, 0),
  (26, .aload_n 0, 1, [], 0, 0),
  (27, .getfield 18, 3, [], 0, 0),
  (30, .iload_n 2, 1, [], 0, 0),
  (31, .iaload, 1, [], 0, 0),
  (32, .invokevirtual 92, 3, [], 0, 0),
  (35, .ior, 1, [], 0, 0),
  (36, .istore 5, 2, [], 0, 0),
  (38, .aload_n 0, 1, [], 0, 0),
  (39, .getfield 18, 3, [], 0, 0),
  (42, .iload_n 2, 1, [], 0, 0),
  (43, .iconst 1, 1, [], 1, 0),
  (44, .iadd, 1, [], 0, 0),
  (45, .iload 5, 2, [], 0, 0),
  (47, .iastore, 1, [], 0, 0),
  (48, .aload_n 0, 1, [], 0, 0),
  (49, .getfield 21, 3, [], 0, 0),
  (52, .iload_n 2, 1, [], 0, 0),
  (53, .iconst 1, 1, [], 1, 0),
  (54, .iadd, 1, [], 0, 0),
  (55, .aload_n 0, 1, [], 0, 0),
  (56, .getfield 21, 3, [], 0, 0),
  (59, .iload_n 2, 1, [], 0, 0),
  (60, .iaload, 1, [], 0, 0),
  (61, .iload_n 3, 1, [], 0, 0),
  (62, .iload 4, 2, [], 0, 0),
  (64, .ishl, 1, [], 0, 0),
  (65, .ior, 1, [], 0, 0),
  (66, .iastore, 1, [], 0, 0),
  (67, .iconst 0, 1, [], 0, 0),
  (68, .istore 6, 2, [], 0, 0),
  (70, .iload 6, 2, [], 0, 0),
  (72, .aload_n 1, 1, [], 0, 0),
  (73, .getfield 96, 3, [], 0, 0),
  (76, .if_icmp .ge 40, 3, [(0, 116)], 0, 0),
  (79, .aload_n 0, 1, [], 0, 0),
  (80, .getfield 26, 3, [], 0, 0),
  (83, .iload_n 2, 1, [], 0, 0),
  (84, .iconst 1, 1, [], 1, 0),
  (85, .iadd, 1, [], 0, 0),
  (86, .aaload, 1, [], 0, 0),
  (87, .iload 6, 2, [], 0, 0),
  (89, .aload_n 0, 1, [], 0, 0),
  (90, .getfield 26, 3, [], 0, 0),
  (93, .iload_n 2, 1, [], 0, 0),
  (94, .aaload, 1, [], 0, 0),
  (95, .iload 6, 2, [], 0, 0),
  (97, .iaload, 1, [], 0, 0),
  (98, .aload_n 1, 1, [], 0, 0),
  (99, .iload 4, 2, [], 0, 0),
  (101, .iload 6, 2, [], 0, 0),
  (103, .iload 5, 2, [], 0, 0),
  (105, .invokevirtual 99, 3, [], 0, 0),
  (108, .iadd, 1, [], 0, 0),
  (109, .iastore, 1, [], 0, 0),
  (110, .iinc 6 1, 3, [], 1, 0),
  (113, .goto (-43), 3, [(0, 70)], 0, 0),
  (116, .return_, 1, [], 0, 0)]
def bt_TX0_judge : List bt_E := [
  (0, .iconst 0, 1, [], 0, 0),
  (1, .istore 4, 2, [], 0, 0),
  (3, .iload 4, 2, [], 0, 0),
  (5, .aload_n 0, 1, [], 0, 0),
  (6, .getfield 29, 3, [], 0, 0),
  (9, .if_icmp .ge 29, 3, [(0, 38)], 0, 0),
  (12, .aload_n 3, 1, [], 0, 0),
  (13, .aload_n 0, 1, [], 0, 0),
  (14, .getfield 9, 3, [], 0, 0),
  (17, .iload 4, 2, [], 0, 0),
  (19, .iaload, 1, [], 0, 0),
  (20, .iaload, 1, [], 0, 0),
  (21, .aload_n 0, 1, [], 0, 0),
  (22, .getfield 15, 3, [], 0, 0),
  (25, .iload 4, 2, [], 0, 0),
  (27, .iaload, 1, [], 0, 0),
  (28, .if_icmp .eq 4, 3, [(0, 32)], 0, 0),
  (31, .return_, 1, [], 0, 0),
  (32, .iinc 4 1, 3, [], 1, 0),
  (35, .goto (-32), 3, [(0, 3)], 0, 0),
  (38, .aload_n 0, 1, [], 0, 0),
  (39, .aload_n 0, 1, [], 0, 0),
  (40, .getfield 33, 3, [], 0, 0),
  (43, .ifCond .ne 7, 3, [(0, 50)], 0, 0),
  (46, .iload_n 2, 1, [], 0, 0),
  (47, .goto 11, 3, [(0, 58)], 0, 0),
  (50, .aload_n 0, 1, [], 0, 0),
  (51, .getfield 36, 3, [], 0, 0),
  (54, .iload_n 2, 1, [], 0, 0),
  (55, .invokestatic 102, 3, [], 0, 0),
  (58, .putfield 36, 3, [], 0, 0),
  (61, .aload_n 0, 1, [], 0, 0),
  (62, .dup, 1, [], 0, 0),
  (63, .getfield 33, 3, [], 0, 0),
  (66, .iconst 1, 1, [], 1, 0),
  (67, .iadd, 1, [], 0, 0),
  (68, .putfield 33, 3, [], 0, 0),
  (71, .aload_n 0, 1, [], 0, 0),
  (72, .dup, 1, [], 0, 0),
  (73, .getfield 45, 3, [], 0, 0),
  (76, .iload_n 2, 1, [], 0, 0),
  (77, .iand, 1, [], 0, 0),
  (78, .putfield 45, 3, [], 0, 0),
  (81, .aload_n 0, 1, [], 0, 0),
  (82, .dup, 1, [], 0, 0),
  (83, .getfield 48, 3, [], 0, 0),
  (86, .iload_n 2, 1, [], 0, 0),
  (87, .ior, 1, [], 0, 0),
  (88, .putfield 48, 3, [], 0, 0),
  (91, .aload_n 0, 1, [], 0, 0),
  (92, .dup, 1, [], 0, 0),
  (93, .getfield 51, 3, [], 0, 0),
  (96, .iload_n 1, 1, [], 0, 0),
  (97, .ior, 1, [], 0, 0),
  (98, .putfield 51, 3, [], 0, 0),
  (101, .return_, 1, [], 0, 0)]
def bt_TX1_spread : List bt_E := [
  (0, .aload_n 0, 1, [], 0, 0),
  (1, .aload_n 1, 1, [], 0, 0),
  (2, .invokevirtual 18, 3, [], 0, 0),
  (5, .aload_n 1, 1, [], 0, 0),
  (6, .getfield 22, 3, [], 0, 0),
  (9, .istore_n 3, 1, [], 0, 0),
  (10, .iload_n 3, 1, [], 0, 0),
  (11, .iload_n 2, 1, [], 0, 0),
  (12, .if_icmp .ge 15, 3, [(0, 27)], 0, 0),
  (15, .aload_n 0, 1, [], 0, 0),
  (16, .aload_n 1, 1, [], 0, 0),
  (17, .iload_n 3, 1, [], 0, 0),
  (18, .invokevirtual 28, 3, [], 0, 0),
  (21, .iinc 3 1, 3, [], 1, 0),
  (24, .goto (-14), 3, [(0, 10)], 0, 0),
  (27, .return_, 1, [], 0, 0)]
def bt_TX1_begin : List bt_E := [
  (0, .iconst 0, 1, [], 0, 0),
  (1, .istore_n 2, 1, [], 0, 0),
  (2, .iload_n 2, 1, [], 0, 0),
  (3, .bipush 64, 2, [], 64, 0),
  (5, .if_icmp .ge 16, 3, [(0, 21)], 0, 0),
  (8, .aload_n 0, 1, [], 0, 0),
  (9, .getfield 11, 3, [], 0, 0),
  (12, .iload_n 2, 1, [], 0, 0),
  (13, .lconst 0, 1, [], 0, 0),
  (14, .lastore, 1, [], 0, 0),
  (15, .iinc 2 1, 3, [], 1, 0),
  (18, .goto (-16), 3, [(0, 2)], 0, 0),
  (21, .aload_n 0, 1, [], 0, 0),
  (22, .getfield 11, 3, [], 0, 0),
  (25, .aload_n 1, 1, [], 0, 0),
  (26, .getfield 32, 3, [], 0, 0),
  (29, .lconst 1, 1, [], 0, 1),
  (30, .lastore, 1, [], 0, 0),
  (31, .aload_n 0, 1, [], 0, 0),
  (32, .lconst 1, 1, [], 0, 1),
  (33, .putfield 35, 3, [], 0, 0),
  (36, .return_, 1, [], 0, 0)]
def bt_TX1_spreadOne : List bt_E := [
  (0, .iconst 1, 1, [], 1, 0),
  (1, .aload_n 1, 1, [], 0, 0),
  (2, .getfield 39, 3, [], 0, 0),
  (5, .ishl, 1, [], 0, 0),
  (6, .istore_n 3, 1, [], 0, 0),
  (7, .iconst 0, 1, [], 0, 0),
  (8, .istore 4, 2, [], 0, 0),
  (10, .iload 4, 2, [], 0, 0),
  (12, .iload_n 3, 1, [], 0, 0),
  (13, .if_icmp .ge 17, 3, [(0, 30)], 0, 0),
  (16, .aload_n 0, 1, [], 0, 0),
  (17, .getfield 15, 3, [], 0, 0),
  (20, .iload 4, 2, [], 0, 0),
  (22, .lconst 0, 1, [], 0, 0),
  (23, .lastore, 1, [], 0, 0),
  (24, .iinc 4 1, 3, [], 1, 0),
  (27, .goto (-17), 3, [(0, 10)], 0, 0),
  (30, .iconst 0, 1, [], 0, 0),
  (31, .istore 4, 2, [], 0, 0),
  (33, .iload 4, 2, [], 0, 0),
  (35, .iload_n 3, 1, [], 0, 0),
  (36, .if_icmp .ge 97, 3, [(0, 133)], 0, 0),
  (39, .aload_n 0, 1, [], 0, 0),
  (40, .getfield 11, 3, [], 0, 0),
  (43, .iload 4, 2, [], 0, 0),
  (45, .laload, 1, [], 0, 0),
  (46, .lconst 0, 1, [], 0, 0),
  (47, .lcmp, 1, [], 0, 0),
  (48, .ifCond .eq 79, 3, [(0, 127)], 0, 0),
  (51, .aload_n 0, 1, [], 0, 0),
  (52, .getfield 15, 3, [], 0, 0),
  (55, .iload 4, 2, [], 0, 0),
  (57, .aload_n 1, 1, [], 0, 0),
  (58, .iload_n 2, 1, [], 0, 0),
  (59, .aload_n 1, 1, [], 0, 0),
  (60, .getfield 42, 3, [], 0, 0),
  (63, .iload_n 2, 1, [], 0, 0),
  (64, .iaload, 1, [], 0, 0),
  (65, .iload 4, 2, [], 0, 0),
  (67, .invokevirtual 46, 3, [], 0, 0),
  (70, .ior, 1, [], 0, 0),
  (71, .dup2, 1, [], 0, 0),
  (72, .laload, 1, [], 0, 0),
  (73, .aload_n 0, 1, [], 0, 0),
  (74, .getfield 11, 3, [], 0, 0),
  (77, .iload 4, 2, [], 0, 0),
  (79, .laload, 1, [], 0, 0),
  (80, .aload_n 1, 1, [], 0, 0),
  (81, .getfield 50, 3, [], 0, 0),
  (84, .iload_n 2, 1, [], 0, 0),
  (85, .iaload, 1, [], 0, 0),
  (86, .i2l, 1, [], 0, 0),
  (87, .lmul, 1, [], 0, 0),
  (88, .ladd, 1, [], 0, 0),
  (89, .lastore, 1, [], 0, 0),
  (90, .aload_n 0, 1, [], 0, 0),
  (91, .getfield 15, 3, [], 0, 0),
  (94, .iload 4, 2, [], 0, 0),
  (96, .aload_n 1, 1, [], 0, 0),
  (97, .iload_n 2, 1, [], 0, 0),
  (98, .iconst 0, 1, [], 0, 0),
  (99, .iload 4, 2, [], 0, 0),
  (101, .invokevirtual 46, 3, [], 0, 0),
  (104, .ior, 1, [], 0, 0),
  (105, .dup2, 1, [], 0, 0),
  (106, .laload, 1, [], 0, 0),
  (107, .aload_n 0, 1, [], 0, 0),
  (108, .getfield 11, 3, [], 0, 0),
  (111, .iload 4, 2, [], 0, 0),
  (113, .laload, 1, [], 0, 0),
  (114, .bipush 10, 2, [], 10, 0),
  (116, .aload_n 1, 1, [], 0, 0),
  (117, .getfield 50, 3, [], 0, 0),
  (120, .iload_n 2, 1, [], 0, 0),
  (121, .iaload, 1, [], 0, 0),
  (122, .isub, 1, [], 0, 0),
  (123, .i2l, 1, [], 0, 0),
  (124, .lmul, 1, [], 0, 0),
  (125, .ladd, 1, [], 0, 0),
  (126, .lastore, 1, [], 0, 0),
  (127, .iinc 4 1, 3, [], 1, 0),
  (130, .goto (-97), 3, [(0, 33)], 0, 0),
  (133, .aload_n 0, 1, [], 0, 0),
  (134, .getfield 15, 3, [], 0, 0),
  (137, .iconst 0, 1, [], 0, 0),
  (138, .aload_n 0, 1, [], 0, 0),
  (139, .getfield 11, 3, [], 0, 0),
  (142, .iconst 0, 1, [], 0, 0),
  (143, .iload_n 3, 1, [], 0, 0),
  (144, .invokestatic 53, 3, [], 0, 0),
  (147, .aload_n 0, 1, [], 0, 0),
  (148, .dup, 1, [], 0, 0),
  (149, .getfield 35, 3, [], 0, 0),
  (152, .ldc2_w 59, 3, [], 0, 10),
  (155, .lmul, 1, [], 0, 0),
  (156, .putfield 35, 3, [], 0, 0),
  (159, .return_, 1, [], 0, 0)]
def bt_TX1_weightOfGone : List bt_E := [
  (0, .lconst 0, 1, [], 0, 0),
  (1, .lstore_n 2, 1, [], 0, 0),
  (2, .iconst 0, 1, [], 0, 0),
  (3, .istore 4, 2, [], 0, 0),
  (5, .iload 4, 2, [], 0, 0),
  (7, .bipush 64, 2, [], 64, 0),
  (9, .if_icmp .ge 29, 3, [(0, 38)], 0, 0),
  (12, .iload 4, 2, [], 0, 0),
  (14, .iload_n 1, 1, [], 0, 0),
  (15, .invokestatic 61, 3, [], 0, 0),
  (18, .iconst 1, 1, [], 1, 0),
  (19, .if_icmp .ne 13, 3, [(0, 32)], 0, 0),
  (22, .lload_n 2, 1, [], 0, 0),
  (23, .aload_n 0, 1, [], 0, 0),
  (24, .getfield 11, 3, [], 0, 0),
  (27, .iload 4, 2, [], 0, 0),
  (29, .laload, 1, [], 0, 0),
  (30, .ladd, 1, [], 0, 0),
  (31, .lstore_n 2, 1, [], 0, 0),
  (32, .iinc 4 1, 3, [], 1, 0),
  (35, .goto (-30), 3, [(0, 5)], 0, 0),
  (38, .lload_n 2, 1, [], 0, 0),
  (39, .lreturn, 1, [], 0, 0)]
def bt_TX1_weightedTime : List bt_E := [
  (0, .aload_n 0, 1, [], 0, 0),
  (1, .aload_n 1, 1, [], 0, 0),
  (2, .invokevirtual 18, 3, [], 0, 0),
  (5, .aload_n 1, 1, [], 0, 0),
  (6, .getfield 65, 3, [], 0, 0),
  (9, .iload_n 2, 1, [], 0, 0),
  (10, .iaload, 1, [], 0, 0),
  (11, .i2l, 1, [], 0, 0),
  (12, .lstore_n 3, 1, [], 0, 0),
  (13, .aload_n 1, 1, [], 0, 0),
  (14, .getfield 22, 3, [], 0, 0),
  (17, .istore 5, 2, [], 0, 0),
  (19, .iload 5, 2, [], 0, 0),
  (21, .aload_n 1, 1, [], 0, 0),
  (22, .getfield 68, 3, [], 0, 0),
  (25, .if_icmp .ge 63, 3, [(0, 88)], 0, 0),
  (28, .aload_n 0, 1, [], 0, 0),
  (29, .aload_n 1, 1, [], 0, 0),
  (30, .iload 5, 2, [], 0, 0),
  (32, .invokevirtual 28, 3, [], 0, 0),
  (35, .aload_n 0, 1, [], 0, 0),
  (36, .iload_n 2, 1, [], 0, 0),
  (37, .invokevirtual 71, 3, [], 0, 0),
  (40, .lstore 6, 2, [], 0, 0),
  (42, .lload_n 3, 1, [], 0, 0),
  (43, .ldc2_w 59, 3, [], 0, 10),
  (46, .lmul, 1, [], 0, 0),
  (47, .aload_n 1, 1, [], 0, 0),
  (48, .getfield 75, 3, [], 0, 0),
  (51, .iload 5, 2, [], 0, 0),
  (53, .iaload, 1, [], 0, 0),
  (54, .i2l, 1, [], 0, 0),
  (55, .lload 6, 2, [], 0, 0),
  (57, .aload_n 1, 1, [], 0, 0),
  (58, .getfield 78, 3, [], 0, 0),
  (61, .iload_n 2, 1, [], 0, 0),
  (62, .iaload, 1, [], 0, 0),
  (63, .i2l, 1, [], 0, 0),
  (64, .lmul, 1, [], 0, 0),
  (65, .aload_n 0, 1, [], 0, 0),
  (66, .getfield 35, 3, [], 0, 0),
  (69, .lload 6, 2, [], 0, 0),
  (71, .lsub, 1, [], 0, 0),
  (72, .aload_n 1, 1, [], 0, 0),
  (73, .getfield 81, 3, [], 0, 0),
  (76, .i2l, 1, [], 0, 0),
  (77, .lmul, 1, [], 0, 0),
  (78, .ladd, 1, [], 0, 0),
  (79, .lmul, 1, [], 0, 0),
  (80, .ladd, 1, [], 0, 0),
  (81, .lstore_n 3, 1, [], 0, 0),
  (82, .iinc 5 1, 3, [], 1, 0),
  (85, .goto (-66), 3, [(0, 19)], 0, 0),
  (88, .lload_n 3, 1, [], 0, 0),
  (89, .lreturn, 1, [], 0, 0)]
def bt_TX1_bestDaring : List bt_E := [
  (0, .lconst 0, 1, [], 0, 0),
  (1, .lstore 4, 2, [], 0, 0),
  (3, .iconst 0, 1, [], 0, 0),
  (4, .istore 6, 2, [], 0, 0),
  (6, .aload_n 0, 1, [], 0, 0),
  (7, .lconst 1, 1, [], 0, 1),
  (8, .putfield 35, 3, [], 0, 0),
  (11, .aload_n 0, 1, [], 0, 0),
  (12, .bipush (-4), 2, [], (-4), 0),
  (14, .putfield 84, 3, [], 0, 0),
  (17, .aload_n 1, 1, [], 0, 0),
  (18, .getfield 68, 3, [], 0, 0),
  (21, .iconst 1, 1, [], 1, 0),
  (22, .isub, 1, [], 0, 0),
  (23, .istore 7, 2, [], 0, 0),
  (25, .iload 7, 2, [], 0, 0),
  (27, .aload_n 1, 1, [], 0, 0),
  (28, .getfield 22, 3, [], 0, 0),
  (31, .if_icmp .lt 113, 3, [(0, 144)], 0, 0),
  (34, .iload 6, 2, [], 0, 0),
  (36, .aload_n 1, 1, [], 0, 0),
  (37, .getfield 75, 3, [], 0, 0),
  (40, .iload 7, 2, [], 0, 0),
  (42, .iaload, 1, [], 0, 0),
  (43, .aload_n 1, 1, [], 0, 0),
  (44, .getfield 81, 3, [], 0, 0),
  (47, .aload_n 1, 1, [], 0, 0),
  (48, .getfield 78, 3, [], 0, 0),
  (51, .iload_n 2, 1, [], 0, 0),
  (52, .iaload, 1, [], 0, 0),
  (53, .isub, 1, [], 0, 0),
  (54, .imul, 1, [], 0, 0),
  (55, .iadd, 1, [], 0, 0),
  (56, .istore 6, 2, [], 0, 0),
  (58, .aload_n 1, 1, [], 0, 0),
  (59, .iload 7, 2, [], 0, 0),
  (61, .iload_n 2, 1, [], 0, 0),
  (62, .invokestatic 87, 3, [], 0, 0),
  (65, .istore 8, 2, [], 0, 0),
  (67, .ldc2_w 59, 3, [], 0, 10),
  (70, .lload 4, 2, [], 0, 0),
  (72, .lmul, 1, [], 0, 0),
  (73, .lstore 9, 2, [], 0, 0),
  (75, .iload 8, 2, [], 0, 0),
  (77, .iload 6, 2, [], 0, 0),
  (79, .imul, 1, [], 0, 0),
  (80, .bipush 10, 2, [], 10, 0),
  (82, .iload_n 3, 1, [], 0, 0),
  (83, .imul, 1, [], 0, 0),
  (84, .isub, 1, [], 0, 0),
  (85, .i2l, 1, [], 0, 0),
  (86, .aload_n 0, 1, [], 0, 0),
  (87, .getfield 35, 3, [], 0, 0),
  (90, .lmul, 1, [], 0, 0),
  (91, .bipush 10, 2, [], 10, 0),
  (93, .iload 8, 2, [], 0, 0),
  (95, .isub, 1, [], 0, 0),
  (96, .i2l, 1, [], 0, 0),
  (97, .lload 4, 2, [], 0, 0),
  (99, .lmul, 1, [], 0, 0),
  (100, .ladd, 1, [], 0, 0),
  (101, .lstore 11, 2, [], 0, 0),
  (103, .aload_n 0, 1, [], 0, 0),
  (104, .dup, 1, [], 0, 0),
  (105, .getfield 35, 3, [], 0, 0),
  (108, .ldc2_w 59, 3, [], 0, 10),
  (111, .lmul, 1, [], 0, 0),
  (112, .putfield 35, 3, [], 0, 0),
  (115, .lload 11, 2, [], 0, 0),
  (117, .lload 9, 2, [], 0, 0),
  (119, .lcmp, 1, [], 0, 0),
  (120, .ifCond .le 9, 3, [(0, 129)], 0, 0),
  (123, .aload_n 0, 1, [], 0, 0),
  (124, .iload 7, 2, [], 0, 0),
  (126, .putfield 84, 3, [], 0, 0),
  (129, .lload 11, 2, [], 0, 0),
  (131, .lload 9, 2, [], 0, 0),
  (133, .invokestatic 91, 3, [], 0, 0),
  (136, .lstore 4, 2, [], 0, 0),
  (138, .iinc 7 (-1), 3, [], (-1), 0),
  (141, .goto (-116), 3, [(0, 25)], 0, 0),
  (144, .lload 4, 2, [], 0, 0),
  (146, .lreturn, 1, [], 0, 0)]
def bt_TX1_tenthsToPass : List bt_E := [
  (0, .aload_n 0, 1, [], 0, 0),
  (1, .iload_n 2, 1, [], 0, 0),
  (2, .aload_n 0, 1, [], 0, 0),
  (3, .iload_n 1, 1, [], 0, 0),
  (4, .iconst 0, 1, [], 0, 0),
  (5, .invokevirtual 97, 3, [], 0, 0),
  (8, .iconst 0, 1, [], 0, 0),
  (9, .iconst 0, 1, [], 0, 0),
  (10, .invokevirtual 100, 3, [], 0, 0),
  (13, .ifCond .eq 6, 3, [(0, 19)], 0, 0),
  (16, .bipush 10, 2, [], 10, 0),
  (18, .ireturn, 1, [], 0, 0),
  (19, .aload_n 0, 1, [], 0, 0),
  (20, .iload_n 2, 1, [], 0, 0),
  (21, .aload_n 0, 1, [], 0, 0),
  (22, .iload_n 1, 1, [], 0, 0),
  (23, .aload_n 0, 1, [], 0, 0),
  (24, .getfield 42, 3, [], 0, 0),
  (27, .iload_n 1, 1, [], 0, 0),
  (28, .iaload, 1, [], 0, 0),
  (29, .invokevirtual 97, 3, [], 0, 0),
  (32, .iconst 0, 1, [], 0, 0),
  (33, .iconst 0, 1, [], 0, 0),
  (34, .invokevirtual 100, 3, [], 0, 0),
  (37, .ifCond .eq 12, 3, [(0, 49)], 0, 0),
  (40, .aload_n 0, 1, [], 0, 0),
  (41, .getfield 50, 3, [], 0, 0),
  (44, .iload_n 1, 1, [], 0, 0),
  (45, .iaload, 1, [], 0, 0),
  (46, .goto 4, 3, [(0, 50)], 0, 0),
  (49, .iconst 0, 1, [], 0, 0),
  (50, .ireturn, 1, [], 0, 0)]
def bt_TX2_begin : List bt_E := [
  (0, .aload_n 0, 1, [], 0, 0),
  (1, .iload_n 1, 1, [], 0, 0),
  (2, .putfield 19, 3, [], 0, 0),
  (5, .aload_n 0, 1, [], 0, 0),
  (6, .iload_n 2, 1, [], 0, 0),
  (7, .putfield 15, 3, [], 0, 0),
  (10, .iconst 0, 1, [], 0, 0),
  (11, .istore_n 3, 1, [], 0, 0),
  (12, .iload_n 3, 1, [], 0, 0),
  (13, .bipush 40, 2, [], 40, 0),
  (15, .if_icmp .ge 16, 3, [(0, 31)], 0, 0),
  (18, .aload_n 0, 1, [], 0, 0),
  (19, .getfield 9, 3, [], 0, 0),
  (22, .iload_n 3, 1, [], 0, 0),
  (23, .iconst 0, 1, [], 0, 0),
  (24, .iastore, 1, [], 0, 0),
  (25, .iinc 3 1, 3, [], 1, 0),
  (28, .goto (-16), 3, [(0, 12)], 0, 0),
  (31, .return_, 1, [], 0, 0)]
def bt_TX2_faultAt : List bt_E := [
  (0, .aload_n 0, 1, [], 0, 0),
  (1, .getfield 15, 3, [], 0, 0),
  (4, .ifCond .ge 5, 3, [(0, 9)], 0, 0),
  (7, .iconst 1, 1, [], 1, 0),
  (8, .ireturn, 1, [], 0, 0),
  (9, .iload_n 1, 1, [], 0, 0),
  (10, .aload_n 0, 1, [], 0, 0),
  (11, .getfield 19, 3, [], 0, 0),
  (14, .if_icmp .eq 5, 3, [(0, 19)], 0, 0),
  (17, .iconst 3, 1, [], 3, 0),
  (18, .ireturn, 1, [], 0, 0),
  (19, .iload_n 2, 1, [], 0, 0),
  (20, .iconst 0, 1, [], 0, 0),
  (21, .aload_n 0, 1, [], 0, 0),
  (22, .getfield 15, 3, [], 0, 0),
  (25, .iconst 1, 1, [], 1, 0),
  (26, .isub, 1, [], 0, 0),
  (27, .invokestatic 22, 3, [], 0, 0),
  (30, .ifCond .eq 7, 3, [(0, 37)], 0, 0),
  (33, .iconst 0, 1, [], 0, 0),
  (34, .goto 4, 3, [(0, 38)], 0, 0),
  (37, .iconst 2, 1, [], 2, 0),
  (38, .ireturn, 1, [], 0, 0)]
def bt_TX2_put : List bt_E := [
  (0, .aload_n 0, 1, [], 0, 0),
  (1, .getfield 19, 3, [], 0, 0),
  (4, .ifCond .ne 14, 3, [(0, 18)], 0, 0),
  (7, .aload_n 0, 1, [], 0, 0),
  (8, .getfield 9, 3, [], 0, 0),
  (11, .iload_n 1, 1, [], 0, 0),
  (12, .iload_n 2, 1, [], 0, 0),
  (13, .i2b, 1, [], 0, 0),
  (14, .iastore, 1, [], 0, 0),
  (15, .goto 29, 3, [(0, 44)], 0, 0),
  (18, .aload_n 0, 1, [], 0, 0),
  (19, .getfield 19, 3, [], 0, 0),
  (22, .iconst 1, 1, [], 1, 0),
  (23, .if_icmp .ne 14, 3, [(0, 37)], 0, 0),
  (26, .aload_n 0, 1, [], 0, 0),
  (27, .getfield 9, 3, [], 0, 0),
  (30, .iload_n 1, 1, [], 0, 0),
  (31, .iload_n 2, 1, [], 0, 0),
  (32, .i2s, 1, [], 0, 0),
  (33, .iastore, 1, [], 0, 0),
  (34, .goto 10, 3, [(0, 44)], 0, 0),
  (37, .aload_n 0, 1, [], 0, 0),
  (38, .getfield 9, 3, [], 0, 0),
  (41, .iload_n 1, 1, [], 0, 0),
  (42, .iload_n 2, 1, [], 0, 0),
  (43, .iastore, 1, [], 0, 0),
  (44, .return_, 1, [], 0, 0)]
def bt_TX3_tellAll : List bt_E := [
  (0, .aload_n 0, 1, [], 0, 0),
  (1, .iload_n 1, 1, [], 0, 0),
  (2, .putfield 19, 3, [], 0, 0),
  (5, .aload_n 0, 1, [], 0, 0),
  (6, .getfield 15, 3, [], 0, 0),
  (9, .invokevirtual 23, 3, [], 0, 0),
  (12, .aload_n 0, 1, [], 0, 0),
  (13, .iconst 0, 1, [], 0, 0),
  (14, .putfield 28, 3, [], 0, 0),
  (17, .aload_n 0, 1, [], 0, 0),
  (18, .iconst 0, 1, [], 0, 0),
  (19, .putfield 31, 3, [], 0, 0),
  (22, .aload_n 0, 1, [], 0, 0),
  (23, .iconst 0, 1, [], 0, 0),
  (24, .putfield 34, 3, [], 0, 0),
  (27, .aload_n 0, 1, [], 0, 0),
  (28, .iconst 0, 1, [], 0, 0),
  (29, .putfield 37, 3, [], 0, 0),
  (32, .aload_n 0, 1, [], 0, 0),
  (33, .iconst 0, 1, [], 0, 0),
  (34, .putfield 40, 3, [], 0, 0),
  (37, .aload_n 0, 1, [], 0, 0),
  (38, .iconst 0, 1, [], 0, 0),
  (39, .putfield 43, 3, [], 0, 0),
  (42, .aload_n 0, 1, [], 0, 0),
  (43, .iconst 0, 1, [], 0, 0),
  (44, .putfield 46, 3, [], 0, 0),
  (47, .aload_n 0, 1, [], 0, 0),
  (48, .iconst 0, 1, [], 0, 0),
  (49, .putfield 49, 3, [], 0, 0),
  (52, .iconst 0, 1, [], 0, 0),
  (53, .istore_n 2, 1, [], 0, 0),
  (54, .iload_n 2, 1, [], 0, 0),
  (55, .aload_n 0, 1, [], 0, 0),
  (56, .getfield 19, 3, [], 0, 0),
  (59, .if_icmp .gt 37, 3, [(0, 96)], 0, 0),
  (62, .aload_n 0, 1, [], 0, 0),
  (63, .invokevirtual 52, 3, [], 0, 0),
  (66, .ifCond .ne 5, 3, [(0, 71)], 0, 0),
  (69, .iload_n 2, 1, [], 0, 0),
  (70, .ireturn, 1, [], 0, 0),
  (71, .aload_n 0, 1, [], 0, 0),
  (72, .getfield 56, 3, [], 0, 0),
  (75, .ifCond .ne 6, 3, [(0, 81)], 0, 0),
  (78, .goto 18, 3, [(0, 96)], 0, 0),
  (81, .aload_n 0, 1, [], 0, 0),
  (82, .invokevirtual 59, 3, [], 0, 0),
  (85, .ifCond .ne 5, 3, [(0, 90)], 0, 0),
  (88, .iload_n 2, 1, [], 0, 0),
  (89, .ireturn, 1, [], 0, 0),
  (90, .iinc 2 1, 3, [], 1, 0),
  (93, .goto (-39), 3, [(0, 54)], 0, 0),
  (96, .aload_n 0, 1, [], 0, 0),
  (97, .invokevirtual 62, 3, [], 0, 0),
  (100, .iload_n 2, 1, [], 0, 0),
  (101, .ireturn, 1, [], 0, 0)]
def bt_TX3_checkStretches : List bt_E := [
  (0, .aload_n 0, 1, [], 0, 0),
  (1, .getfield 40, 3, [], 0, 0),
  (4, .aload_n 0, 1, [], 0, 0),
  (5, .getfield 43, 3, [], 0, 0),
  (8, .ior, 1, [], 0, 0),
  (9, .aload_n 0, 1, [], 0, 0),
  (10, .getfield 46, 3, [], 0, 0),
  (13, .ior, 1, [], 0, 0),
  (14, .aload_n 0, 1, [], 0, 0),
  (15, .getfield 49, 3, [], 0, 0),
  (18, .ior, 1, [], 0, 0),
  (19, .istore_n 1, 1, [], 0, 0),
  (20, .iload_n 1, 1, [], 0, 0),
  (21, .aload_n 0, 1, [], 0, 0),
  (22, .getfield 15, 3, [], 0, 0),
  (25, .getfield 65, 3, [], 0, 0),
  (28, .ishr, 1, [], 0, 0),
  (29, .ifCond .eq 14, 3, [(0, 43)], 0, 0),
  (32, .aload_n 0, 1, [], 0, 0),
  (33, .bipush 6, 2, [], 6, 0),
  (35, .aload_n 0, 1, [], 0, 0),
  (36, .getfield 19, 3, [], 0, 0),
  (39, .invokevirtual 68, 3, [], 0, 0),
  (42, .pop, 1, [], 0, 0),
  (43, .aload_n 0, 1, [], 0, 0),
  (44, .getfield 15, 3, [], 0, 0),
  (47, .aload_n 0, 1, [], 0, 0),
  (48, .getfield 40, 3, [], 0, 0),
  (51, .putfield 72, 3, [], 0, 0),
  (54, .aload_n 0, 1, [], 0, 0),
  (55, .getfield 15, 3, [], 0, 0),
  (58, .aload_n 0, 1, [], 0, 0),
  (59, .getfield 46, 3, [], 0, 0),
  (62, .putfield 75, 3, [], 0, 0),
  (65, .aload_n 0, 1, [], 0, 0),
  (66, .getfield 15, 3, [], 0, 0),
  (69, .aload_n 0, 1, [], 0, 0),
  (70, .getfield 49, 3, [], 0, 0),
  (73, .putfield 78, 3, [], 0, 0),
  (76, .return_, 1, [], 0, 0)]
def bt_TX3_refuse : List bt_E := [
  (0, .aload_n 0, 1, [], 0, 0),
  (1, .iload_n 1, 1, [], 0, 0),
  (2, .putfield 28, 3, [], 0, 0),
  (5, .aload_n 0, 1, [], 0, 0),
  (6, .iload_n 2, 1, [], 0, 0),
  (7, .putfield 31, 3, [], 0, 0),
  (10, .iconst 0, 1, [], 0, 0),
  (11, .ireturn, 1, [], 0, 0)]
def bt_TX3_advance : List bt_E := [
  (0, .aload_n 0, 1, [], 0, 0),
  (1, .getfield 34, 3, [], 0, 0),
  (4, .aload_n 0, 1, [], 0, 0),
  (5, .getfield 19, 3, [], 0, 0),
  (8, .if_icmp .ge 30, 3, [(0, 38)], 0, 0),
  (11, .aload_n 0, 1, [], 0, 0),
  (12, .getfield 9, 3, [], 0, 0),
  (15, .aload_n 0, 1, [], 0, 0),
  (16, .getfield 34, 3, [], 0, 0),
  (19, .baload, 1, [], 0, 0),
  (20, .bipush 32, 2, [], 32, 0),
  (22, .if_icmp .ne 16, 3, [(0, 38)], 0, 0),
  (25, .aload_n 0, 1, [], 0, 0),
  (26, .dup, 1, [], 0, 0),
  (27, .getfield 34, 3, [], 0, 0),
  (30, .iconst 1, 1, [], 1, 0),
  (31, .iadd, 1, [], 0, 0),
  (32, .putfield 34, 3, [], 0, 0),
  (35, .goto (-35), 3, [(0, 0)], 0, 0),
  (38, .aload_n 0, 1, [], 0, 0),
  (39, .aload_n 0, 1, [], 0, 0),
  (40, .getfield 34, 3, [], 0, 0),
  (43, .putfield 81, 3, [], 0, 0),
  (46, .aload_n 0, 1, [], 0, 0),
  (47, .getfield 34, 3, [], 0, 0),
  (50, .aload_n 0, 1, [], 0, 0),
  (51, .getfield 19, 3, [], 0, 0),
  (54, .if_icmp .lt 10, 3, [(0, 64)], 0, 0),
  (57, .aload_n 0, 1, [], 0, 0),
  (58, .iconst 0, 1, [], 0, 0),
  (59, .putfield 56, 3, [], 0, 0),
  (62, .iconst 1, 1, [], 1, 0),
  (63, .ireturn, 1, [], 0, 0),
  (64, .aload_n 0, 1, [], 0, 0),
  (65, .getfield 9, 3, [], 0, 0),
  (68, .aload_n 0, 1, [], 0, 0),
  (69, .getfield 34, 3, [], 0, 0),
  (72, .baload, 1, [], 0, 0),
  (73, .bipush 59, 2, [], 59, 0),
  (75, .if_icmp .ne 20, 3, [(0, 95)], 0, 0),
  (78, .aload_n 0, 1, [], 0, 0),
  (79, .iconst 3, 1, [], 3, 0),
  (80, .putfield 56, 3, [], 0, 0),
  (83, .aload_n 0, 1, [], 0, 0),
  (84, .dup, 1, [], 0, 0),
  (85, .getfield 34, 3, [], 0, 0),
  (88, .iconst 1, 1, [], 1, 0),
  (89, .iadd, 1, [], 0, 0),
  (90, .putfield 34, 3, [], 0, 0),
  (93, .iconst 1, 1, [], 1, 0),
  (94, .ireturn, 1, [], 0, 0),
  (95, .aload_n 0, 1, [], 0, 0),
  (96, .getfield 9, 3, [], 0, 0),
  (99, .aload_n 0, 1, [], 0, 0),
  (100, .getfield 34, 3, [], 0, 0),
  (103, .baload, 1, [], 0, 0),
  (104, .invokestatic 84, 3, [], 0, 0),
  (107, .ifCond .eq 49, 3, [(0, 156)], 0, 0),
  (110, .aload_n 0, 1, [], 0, 0),
  (111, .iconst 1, 1, [], 1, 0),
  (112, .putfield 56, 3, [], 0, 0),
  (115, .aload_n 0, 1, [], 0, 0),
  (116, .getfield 34, 3, [], 0, 0),
  (119, .aload_n 0, 1, [], 0, 0),
  (120, .getfield 19, 3, [], 0, 0),
  (123, .if_icmp .ge 31, 3, [(0, 154)], 0, 0),
  (126, .aload_n 0, 1, [], 0, 0),
  (127, .getfield 9, 3, [], 0, 0),
  (130, .aload_n 0, 1, [], 0, 0),
  (131, .getfield 34, 3, [], 0, 0),
  (134, .baload, 1, [], 0, 0),
  (135, .invokestatic 84, 3, [], 0, 0),
  (138, .ifCond .eq 16, 3, [(0, 154)], 0, 0),
  (141, .aload_n 0, 1, [], 0, 0),
  (142, .dup, 1, [], 0, 0),
  (143, .getfield 34, 3, [], 0, 0),
  (146, .iconst 1, 1, [], 1, 0),
  (147, .iadd, 1, [], 0, 0),
  (148, .putfield 34, 3, [], 0, 0),
  (151, .goto (-36), 3, [(0, 115)], 0, 0),
  (154, .iconst 1, 1, [], 1, 0),
  (155, .ireturn, 1, [], 0, 0),
  (156, .aload_n 0, 1, [], 0, 0),
  (157, .iconst 2, 1, [], 2, 0),
  (158, .putfield 56, 3, [], 0, 0),
  (161, .aload_n 0, 1, [], 0, 0),
  (162, .iconst 0, 1, [], 0, 0),
  (163, .putfield 88, 3, [], 0, 0),
  (166, .aload_n 0, 1, [], 0, 0),
  (167, .getfield 34, 3, [], 0, 0),
  (170, .aload_n 0, 1, [], 0, 0),
  (171, .getfield 19, 3, [], 0, 0),
  (174, .if_icmp .ge 55, 3, [(0, 229)], 0, 0),
  (177, .aload_n 0, 1, [], 0, 0),
  (178, .getfield 9, 3, [], 0, 0),
  (181, .aload_n 0, 1, [], 0, 0),
  (182, .getfield 34, 3, [], 0, 0),
  (185, .baload, 1, [], 0, 0),
  (186, .invokestatic 91, 3, [], 0, 0),
  (189, .ifCond .eq 40, 3, [(0, 229)], 0, 0),
  (192, .aload_n 0, 1, [], 0, 0),
  (193, .aload_n 0, 1, [], 0, 0),
  (194, .getfield 88, 3, [], 0, 0),
  (197, .bipush 10, 2, [], 10, 0),
  (199, .imul, 1, [], 0, 0),
  (200, .aload_n 0, 1, [], 0, 0),
  (201, .getfield 9, 3, [], 0, 0),
  (204, .aload_n 0, 1, [], 0, 0),
  (205, .getfield 34, 3, [], 0, 0),
  (208, .baload, 1, [], 0, 0),
  (209, .iadd, 1, [], 0, 0),
  (210, .bipush 48, 2, [], 48, 0),
  (212, .isub, 1, [], 0, 0),
  (213, .putfield 88, 3, [], 0, 0),
  (216, .aload_n 0, 1, [], 0, 0),
  (217, .dup, 1, [], 0, 0),
  (218, .getfield 34, 3, [], 0, 0),
  (221, .iconst 1, 1, [], 1, 0),
  (222, .iadd, 1, [], 0, 0),
  (223, .putfield 34, 3, [], 0, 0),
  (226, .goto (-60), 3, [(0, 166)], 0, 0),
  (229, .aload_n 0, 1, [], 0, 0),
  (230, .getfield 34, 3, [], 0, 0),
  (233, .aload_n 0, 1, [], 0, 0),
  (234, .getfield 81, 3, [], 0, 0),
  (237, .isub, 1, [], 0, 0),
  (238, .istore_n 1, 1, [], 0, 0),
  (239, .iload_n 1, 1, [], 0, 0),
  (240, .iconst 1, 1, [], 1, 0),
  (241, .iconst 2, 1, [], 2, 0),
  (242, .invokestatic 94, 3, [], 0, 0),
  (245, .ifCond .ne 15, 3, [(0, 260)], 0, 0),
  (248, .aload_n 0, 1, [], 0, 0),
  (249, .iconst 1, 1, [], 1, 0),
  (250, .aload_n 0, 1, [], 0, 0),
  (251, .getfield 81, 3, [], 0, 0),
  (254, .invokevirtual 68, 3, [], 0, 0),
  (257, .ifCond .eq 7, 3, [(0, 264)], 0, 0),
  (260, .iconst 1, 1, [], 1, 0),
  (261, .goto 4, 3, [(0, 265)], 0, 0),
  (264, .iconst 0, 1, [], 0, 0),
  (265, .ireturn, 1, [], 0, 0)]
def bt_TX3_isLetter : List bt_E := [
  (0, .iload_n 0, 1, [], 0, 0),
  (1, .bipush 97, 2, [], 97, 0),
  (3, .if_icmp .lt 13, 3, [(0, 16)], 0, 0),
  (6, .iload_n 0, 1, [], 0, 0),
  (7, .bipush 122, 2, [], 122, 0),
  (9, .if_icmp .gt 7, 3, [(0, 16)], 0, 0),
  (12, .iconst 1, 1, [], 1, 0),
  (13, .goto 4, 3, [(0, 17)], 0, 0),
  (16, .iconst 0, 1, [], 0, 0),
  (17, .ireturn, 1, [], 0, 0)]
def bt_TX3_isFigure : List bt_E := [
  (0, .iload_n 0, 1, [], 0, 0),
  (1, .bipush 48, 2, [], 48, 0),
  (3, .if_icmp .lt 13, 3, [(0, 16)], 0, 0),
  (6, .iload_n 0, 1, [], 0, 0),
  (7, .bipush 57, 2, [], 57, 0),
  (9, .if_icmp .gt 7, 3, [(0, 16)], 0, 0),
  (12, .iconst 1, 1, [], 1, 0),
  (13, .goto 4, 3, [(0, 17)], 0, 0),
  (16, .iconst 0, 1, [], 0, 0),
  (17, .ireturn, 1, [], 0, 0)]
def bt_TX3_says : List bt_E := [
  (0, .aload_n 0, 1, [], 0, 0),
  (1, .getfield 56, 3, [], 0, 0),
  (4, .iconst 1, 1, [], 1, 0),
  (5, .if_icmp .ne 19, 3, [(0, 24)], 0, 0),
  (8, .aload_n 0, 1, [], 0, 0),
  (9, .getfield 34, 3, [], 0, 0),
  (12, .aload_n 0, 1, [], 0, 0),
  (13, .getfield 81, 3, [], 0, 0),
  (16, .isub, 1, [], 0, 0),
  (17, .aload_n 1, 1, [], 0, 0),
  (18, .invokevirtual 98, 3, [], 0, 0),
  (21, .if_icmp .eq 5, 3, [(0, 26)], 0, 0),
  (24, .iconst 0, 1, [], 0, 0),
  (25, .ireturn, 1, [], 0, 0),
  (26, .iconst 0, 1, [], 0, 0),
  (27, .istore_n 2, 1, [], 0, 0),
  (28, .iload_n 2, 1, [], 0, 0),
  (29, .aload_n 1, 1, [], 0, 0),
  (30, .invokevirtual 98, 3, [], 0, 0),
  (33, .if_icmp .ge 30, 3, [(0, 63)], 0, 0),
  (36, .aload_n 0, 1, [], 0, 0),
  (37, .getfield 9, 3, [], 0, 0),
  (40, .aload_n 0, 1, [], 0, 0),
  (41, .getfield 81, 3, [], 0, 0),
  (44, .iload_n 2, 1, [], 0, 0),
  (45, .iadd, 1, [], 0, 0),
  (46, .baload, 1, [], 0, 0),
  (47, .aload_n 1, 1, [], 0, 0),
  (48, .iload_n 2, 1, [], 0, 0),
  (49, .invokevirtual 103, 3, [], 0, 0),
  (52, .if_icmp .eq 5, 3, [(0, 57)], 0, 0),
  (55, .iconst 0, 1, [], 0, 0),
  (56, .ireturn, 1, [], 0, 0),
  (57, .iinc 2 1, 3, [], 1, 0),
  (60, .goto (-32), 3, [(0, 28)], 0, 0),
  (63, .iconst 1, 1, [], 1, 0),
  (64, .ireturn, 1, [], 0, 0)]
def bt_TX3_tellLine : List bt_E := [
  (0, .aload_n 0, 1, [], 0, 0),
  (1, .ldc 107, 2, [(0, 0)], 0, 0),
  (3, .invokevirtual 109, 3, [], 0, 0),
  (6, .ifCond .eq 8, 3, [(0, 14)], 0, 0),
  (9, .aload_n 0, 1, [], 0, 0),
  (10, .invokevirtual 113, 3, [], 0, 0),
  (13, .ireturn, 1, [], 0, 0),
  (14, .aload_n 0, 1, [], 0, 0),
  (15, .ldc 116, 2, [(0, 1)], 0, 0),
  (17, .invokevirtual 109, 3, [], 0, 0),
  (20, .ifCond .eq 8, 3, [(0, 28)], 0, 0),
  (23, .aload_n 0, 1, [], 0, 0),
  (24, .invokevirtual 118, 3, [], 0, 0),
  (27, .ireturn, 1, [], 0, 0),
  (28, .aload_n 0, 1, [], 0, 0),
  (29, .ldc 121, 2, [(0, 7)], 0, 0),
  (31, .invokevirtual 109, 3, [], 0, 0),
  (34, .ifCond .eq 8, 3, [(0, 42)], 0, 0),
  (37, .aload_n 0, 1, [], 0, 0),
  (38, .invokevirtual 123, 3, [], 0, 0),
  (41, .ireturn, 1, [], 0, 0),
  (42, .aload_n 0, 1, [], 0, 0),
  (43, .ldc 126, 2, [(0, 8)], 0, 0),
  (45, .invokevirtual 109, 3, [], 0, 0),
  (48, .ifCond .eq 39, 3, [(0, 87)], 0, 0),
  (51, .aload_n 0, 1, [], 0, 0),
  (52, .aload_n 0, 1, [], 0, 0),
  (53, .aload_n 0, 1, [], 0, 0),
  (54, .getfield 43, 3, [], 0, 0),
  (57, .invokevirtual 128, 3, [], 0, 0),
  (60, .putfield 43, 3, [], 0, 0),
  (63, .aload_n 0, 1, [], 0, 0),
  (64, .getfield 28, 3, [], 0, 0),
  (67, .ifCond .ne 18, 3, [(0, 85)], 0, 0),
  (70, .aload_n 0, 1, [], 0, 0),
  (71, .aload_n 0, 1, [], 0, 0),
  (72, .getfield 88, 3, [], 0, 0),
  (75, .invokevirtual 132, 3, [], 0, 0),
  (78, .ifCond .eq 7, 3, [(0, 85)], 0, 0),
  (81, .iconst 1, 1, [], 1, 0),
  (82, .goto 4, 3, [(0, 86)], 0, 0),
  (85, .iconst 0, 1, [], 0, 0),
  (86, .ireturn, 1, [], 0, 0),
  (87, .aload_n 0, 1, [], 0, 0),
  (88, .ldc 135, 2, [(0, 9)], 0, 0),
  (90, .invokevirtual 109, 3, [], 0, 0),
  (93, .ifCond .eq 35, 3, [(0, 128)], 0, 0),
  (96, .aload_n 0, 1, [], 0, 0),
  (97, .aload_n 0, 1, [], 0, 0),
  (98, .aload_n 0, 1, [], 0, 0),
  (99, .getfield 40, 3, [], 0, 0),
  (102, .invokevirtual 128, 3, [], 0, 0),
  (105, .putfield 40, 3, [], 0, 0),
  (108, .aload_n 0, 1, [], 0, 0),
  (109, .getfield 28, 3, [], 0, 0),
  (112, .ifCond .ne 14, 3, [(0, 126)], 0, 0),
  (115, .aload_n 0, 1, [], 0, 0),
  (116, .invokevirtual 137, 3, [], 0, 0),
  (119, .ifCond .eq 7, 3, [(0, 126)], 0, 0),
  (122, .iconst 1, 1, [], 1, 0),
  (123, .goto 4, 3, [(0, 127)], 0, 0),
  (126, .iconst 0, 1, [], 0, 0),
  (127, .ireturn, 1, [], 0, 0),
  (128, .aload_n 0, 1, [], 0, 0),
  (129, .ldc 140, 2, [(0, 10)], 0, 0),
  (131, .invokevirtual 109, 3, [], 0, 0),
  (134, .ifCond .eq 35, 3, [(0, 169)], 0, 0),
  (137, .aload_n 0, 1, [], 0, 0),
  (138, .aload_n 0, 1, [], 0, 0),
  (139, .aload_n 0, 1, [], 0, 0),
  (140, .getfield 46, 3, [], 0, 0),
  (143, .invokevirtual 128, 3, [], 0, 0),
  (146, .putfield 46, 3, [], 0, 0),
  (149, .aload_n 0, 1, [], 0, 0),
  (150, .getfield 28, 3, [], 0, 0),
  (153, .ifCond .ne 14, 3, [(0, 167)], 0, 0),
  (156, .aload_n 0, 1, [], 0, 0),
  (157, .invokevirtual 137, 3, [], 0, 0),
  (160, .ifCond .eq 7, 3, [(0, 167)], 0, 0),
  (163, .iconst 1, 1, [], 1, 0),
  (164, .goto 4, 3, [(0, 168)], 0, 0),
  (167, .iconst 0, 1, [], 0, 0),
  (168, .ireturn, 1, [], 0, 0),
  (169, .aload_n 0, 1, [], 0, 0),
  (170, .ldc 142, 2, [(0, 11)], 0, 0),
  (172, .invokevirtual 109, 3, [], 0, 0),
  (175, .ifCond .eq 35, 3, [(0, 210)], 0, 0),
  (178, .aload_n 0, 1, [], 0, 0),
  (179, .aload_n 0, 1, [], 0, 0),
  (180, .aload_n 0, 1, [], 0, 0),
  (181, .getfield 49, 3, [], 0, 0),
  (184, .invokevirtual 128, 3, [], 0, 0),
  (187, .putfield 49, 3, [], 0, 0),
  (190, .aload_n 0, 1, [], 0, 0),
  (191, .getfield 28, 3, [], 0, 0),
  (194, .ifCond .ne 14, 3, [(0, 208)], 0, 0),
  (197, .aload_n 0, 1, [], 0, 0),
  (198, .invokevirtual 137, 3, [], 0, 0),
  (201, .ifCond .eq 7, 3, [(0, 208)], 0, 0),
  (204, .iconst 1, 1, [], 1, 0),
  (205, .goto 4, 3, [(0, 209)], 0, 0),
  (208, .iconst 0, 1, [], 0, 0),
  (209, .ireturn, 1, [], 0, 0),
  (210, .aload_n 0, 1, [], 0, 0),
  (211, .iconst 2, 1, [], 2, 0),
  (212, .aload_n 0, 1, [], 0, 0),
  (213, .getfield 81, 3, [], 0, 0),
  (216, .invokevirtual 68, 3, [], 0, 0),
  (219, .ireturn, 1, [], 0, 0)]
def bt_TX3_stops : List bt_E := [
  (0, .aload_n 0, 1, [], 0, 0),
  (1, .invokevirtual 52, 3, [], 0, 0),
  (4, .ifCond .ne 5, 3, [(0, 9)], 0, 0),
  (7, .iconst 0, 1, [], 0, 0),
  (8, .ireturn, 1, [], 0, 0),
  (9, .aload_n 0, 1, [], 0, 0),
  (10, .getfield 56, 3, [], 0, 0),
  (13, .iconst 3, 1, [], 3, 0),
  (14, .if_icmp .eq 15, 3, [(0, 29)], 0, 0),
  (17, .aload_n 0, 1, [], 0, 0),
  (18, .iconst 2, 1, [], 2, 0),
  (19, .aload_n 0, 1, [], 0, 0),
  (20, .getfield 81, 3, [], 0, 0),
  (23, .invokevirtual 68, 3, [], 0, 0),
  (26, .ifCond .eq 7, 3, [(0, 33)], 0, 0),
  (29, .iconst 1, 1, [], 1, 0),
  (30, .goto 4, 3, [(0, 34)], 0, 0),
  (33, .iconst 0, 1, [], 0, 0),
  (34, .ireturn, 1, [], 0, 0)]
def bt_TX3_numbered : List bt_E := [
  (0, .aload_n 0, 1, [], 0, 0),
  (1, .invokevirtual 52, 3, [], 0, 0),
  (4, .ifCond .ne 5, 3, [(0, 9)], 0, 0),
  (7, .iconst 0, 1, [], 0, 0),
  (8, .ireturn, 1, [], 0, 0),
  (9, .aload_n 0, 1, [], 0, 0),
  (10, .getfield 56, 3, [], 0, 0),
  (13, .iconst 2, 1, [], 2, 0),
  (14, .if_icmp .eq 13, 3, [(0, 27)], 0, 0),
  (17, .aload_n 0, 1, [], 0, 0),
  (18, .iconst 2, 1, [], 2, 0),
  (19, .aload_n 0, 1, [], 0, 0),
  (20, .getfield 81, 3, [], 0, 0),
  (23, .invokevirtual 68, 3, [], 0, 0),
  (26, .ireturn, 1, [], 0, 0),
  (27, .aload_n 0, 1, [], 0, 0),
  (28, .getfield 88, 3, [], 0, 0),
  (31, .iload_n 1, 1, [], 0, 0),
  (32, .iload_n 2, 1, [], 0, 0),
  (33, .invokestatic 94, 3, [], 0, 0),
  (36, .ifCond .ne 15, 3, [(0, 51)], 0, 0),
  (39, .aload_n 0, 1, [], 0, 0),
  (40, .iconst 3, 1, [], 3, 0),
  (41, .aload_n 0, 1, [], 0, 0),
  (42, .getfield 81, 3, [], 0, 0),
  (45, .invokevirtual 68, 3, [], 0, 0),
  (48, .ifCond .eq 7, 3, [(0, 55)], 0, 0),
  (51, .iconst 1, 1, [], 1, 0),
  (52, .goto 4, 3, [(0, 56)], 0, 0),
  (55, .iconst 0, 1, [], 0, 0),
  (56, .ireturn, 1, [], 0, 0)]
def bt_TX3_stretchMore : List bt_E := [
  (0, .aload_n 0, 1, [], 0, 0),
  (1, .iconst 0, 1, [], 0, 0),
  (2, .bipush 7, 2, [], 7, 0),
  (4, .invokevirtual 144, 3, [], 0, 0),
  (7, .ifCond .ne 5, 3, [(0, 12)], 0, 0),
  (10, .iload_n 1, 1, [], 0, 0),
  (11, .ireturn, 1, [], 0, 0),
  (12, .iload_n 1, 1, [], 0, 0),
  (13, .aload_n 0, 1, [], 0, 0),
  (14, .getfield 88, 3, [], 0, 0),
  (17, .invokestatic 147, 3, [], 0, 0),
  (20, .iconst 1, 1, [], 1, 0),
  (21, .if_icmp .ne 15, 3, [(0, 36)], 0, 0),
  (24, .aload_n 0, 1, [], 0, 0),
  (25, .iconst 4, 1, [], 4, 0),
  (26, .aload_n 0, 1, [], 0, 0),
  (27, .getfield 81, 3, [], 0, 0),
  (30, .invokevirtual 68, 3, [], 0, 0),
  (33, .pop, 1, [], 0, 0),
  (34, .iload_n 1, 1, [], 0, 0),
  (35, .ireturn, 1, [], 0, 0),
  (36, .iload_n 1, 1, [], 0, 0),
  (37, .iconst 1, 1, [], 1, 0),
  (38, .aload_n 0, 1, [], 0, 0),
  (39, .getfield 88, 3, [], 0, 0),
  (42, .ishl, 1, [], 0, 0),
  (43, .ior, 1, [], 0, 0),
  (44, .ireturn, 1, [], 0, 0)]
def bt_TX3_tellRoad : List bt_E := [
  (0, .aload_n 0, 1, [], 0, 0),
  (1, .getfield 15, 3, [], 0, 0),
  (4, .getfield 65, 3, [], 0, 0),
  (7, .istore_n 1, 1, [], 0, 0),
  (8, .iload_n 1, 1, [], 0, 0),
  (9, .bipush 8, 2, [], 8, 0),
  (11, .if_icmp .lt 13, 3, [(0, 24)], 0, 0),
  (14, .aload_n 0, 1, [], 0, 0),
  (15, .iconst 5, 1, [], 5, 0),
  (16, .aload_n 0, 1, [], 0, 0),
  (17, .getfield 81, 3, [], 0, 0),
  (20, .invokevirtual 68, 3, [], 0, 0),
  (23, .ireturn, 1, [], 0, 0),
  (24, .aload_n 0, 1, [], 0, 0),
  (25, .iconst 1, 1, [], 1, 0),
  (26, .bipush 9, 2, [], 9, 0),
  (28, .invokevirtual 144, 3, [], 0, 0),
  (31, .ifCond .ne 5, 3, [(0, 36)], 0, 0),
  (34, .iconst 0, 1, [], 0, 0),
  (35, .ireturn, 1, [], 0, 0),
  (36, .aload_n 0, 1, [], 0, 0),
  (37, .getfield 15, 3, [], 0, 0),
  (40, .getfield 151, 3, [], 0, 0),
  (43, .iload_n 1, 1, [], 0, 0),
  (44, .aload_n 0, 1, [], 0, 0),
  (45, .getfield 88, 3, [], 0, 0),
  (48, .iastore, 1, [], 0, 0),
  (49, .aload_n 0, 1, [], 0, 0),
  (50, .iconst 0, 1, [], 0, 0),
  (51, .bipush 9, 2, [], 9, 0),
  (53, .invokevirtual 144, 3, [], 0, 0),
  (56, .ifCond .ne 5, 3, [(0, 61)], 0, 0),
  (59, .iconst 0, 1, [], 0, 0),
  (60, .ireturn, 1, [], 0, 0),
  (61, .aload_n 0, 1, [], 0, 0),
  (62, .getfield 15, 3, [], 0, 0),
  (65, .getfield 155, 3, [], 0, 0),
  (68, .iload_n 1, 1, [], 0, 0),
  (69, .aload_n 0, 1, [], 0, 0),
  (70, .getfield 88, 3, [], 0, 0),
  (73, .iastore, 1, [], 0, 0),
  (74, .aload_n 0, 1, [], 0, 0),
  (75, .iconst 0, 1, [], 0, 0),
  (76, .bipush 9, 2, [], 9, 0),
  (78, .invokevirtual 144, 3, [], 0, 0),
  (81, .ifCond .ne 5, 3, [(0, 86)], 0, 0),
  (84, .iconst 0, 1, [], 0, 0),
  (85, .ireturn, 1, [], 0, 0),
  (86, .aload_n 0, 1, [], 0, 0),
  (87, .getfield 15, 3, [], 0, 0),
  (90, .getfield 158, 3, [], 0, 0),
  (93, .iload_n 1, 1, [], 0, 0),
  (94, .aload_n 0, 1, [], 0, 0),
  (95, .getfield 88, 3, [], 0, 0),
  (98, .iastore, 1, [], 0, 0),
  (99, .aload_n 0, 1, [], 0, 0),
  (100, .getfield 15, 3, [], 0, 0),
  (103, .dup, 1, [], 0, 0),
  (104, .getfield 65, 3, [], 0, 0),
  (107, .iconst 1, 1, [], 1, 0),
  (108, .iadd, 1, [], 0, 0),
  (109, .putfield 65, 3, [], 0, 0),
  (112, .aload_n 0, 1, [], 0, 0),
  (113, .invokevirtual 137, 3, [], 0, 0),
  (116, .ireturn, 1, [], 0, 0)]
def bt_TX3_tellOdds : List bt_E := [
  (0, .aload_n 0, 1, [], 0, 0),
  (1, .iconst 0, 1, [], 0, 0),
  (2, .bipush 10, 2, [], 10, 0),
  (4, .invokevirtual 144, 3, [], 0, 0),
  (7, .ifCond .ne 5, 3, [(0, 12)], 0, 0),
  (10, .iconst 0, 1, [], 0, 0),
  (11, .ireturn, 1, [], 0, 0),
  (12, .aload_n 0, 1, [], 0, 0),
  (13, .getfield 15, 3, [], 0, 0),
  (16, .getfield 161, 3, [], 0, 0),
  (19, .iload_n 1, 1, [], 0, 0),
  (20, .aload_n 0, 1, [], 0, 0),
  (21, .getfield 88, 3, [], 0, 0),
  (24, .iastore, 1, [], 0, 0),
  (25, .aload_n 0, 1, [], 0, 0),
  (26, .invokevirtual 137, 3, [], 0, 0),
  (29, .ireturn, 1, [], 0, 0)]
def bt_TX3_tellSlow : List bt_E := [
  (0, .aload_n 0, 1, [], 0, 0),
  (1, .getfield 37, 3, [], 0, 0),
  (4, .ifCond .le 13, 3, [(0, 17)], 0, 0),
  (7, .aload_n 0, 1, [], 0, 0),
  (8, .iconst 4, 1, [], 4, 0),
  (9, .aload_n 0, 1, [], 0, 0),
  (10, .getfield 81, 3, [], 0, 0),
  (13, .invokevirtual 68, 3, [], 0, 0),
  (16, .ireturn, 1, [], 0, 0),
  (17, .aload_n 0, 1, [], 0, 0),
  (18, .dup, 1, [], 0, 0),
  (19, .getfield 37, 3, [], 0, 0),
  (22, .iconst 1, 1, [], 1, 0),
  (23, .iadd, 1, [], 0, 0),
  (24, .putfield 37, 3, [], 0, 0),
  (27, .aload_n 0, 1, [], 0, 0),
  (28, .iconst 1, 1, [], 1, 0),
  (29, .bipush 9, 2, [], 9, 0),
  (31, .invokevirtual 144, 3, [], 0, 0),
  (34, .ifCond .ne 5, 3, [(0, 39)], 0, 0),
  (37, .iconst 0, 1, [], 0, 0),
  (38, .ireturn, 1, [], 0, 0),
  (39, .aload_n 0, 1, [], 0, 0),
  (40, .getfield 15, 3, [], 0, 0),
  (43, .aload_n 0, 1, [], 0, 0),
  (44, .getfield 88, 3, [], 0, 0),
  (47, .putfield 163, 3, [], 0, 0),
  (50, .aload_n 0, 1, [], 0, 0),
  (51, .iconst 0, 1, [], 0, 0),
  (52, .bipush 6, 2, [], 6, 0),
  (54, .invokevirtual 144, 3, [], 0, 0),
  (57, .ifCond .ne 5, 3, [(0, 62)], 0, 0),
  (60, .iconst 0, 1, [], 0, 0),
  (61, .ireturn, 1, [], 0, 0),
  (62, .aload_n 0, 1, [], 0, 0),
  (63, .getfield 15, 3, [], 0, 0),
  (66, .aload_n 0, 1, [], 0, 0),
  (67, .getfield 88, 3, [], 0, 0),
  (70, .putfield 166, 3, [], 0, 0),
  (73, .aload_n 0, 1, [], 0, 0),
  (74, .invokevirtual 137, 3, [], 0, 0),
  (77, .ireturn, 1, [], 0, 0)]
def bt_TX3_tellCar : List bt_E := [
  (0, .aload_n 0, 1, [], 0, 0),
  (1, .getfield 15, 3, [], 0, 0),
  (4, .getfield 169, 3, [], 0, 0),
  (7, .istore_n 1, 1, [], 0, 0),
  (8, .iload_n 1, 1, [], 0, 0),
  (9, .bipush 6, 2, [], 6, 0),
  (11, .if_icmp .lt 13, 3, [(0, 24)], 0, 0),
  (14, .aload_n 0, 1, [], 0, 0),
  (15, .iconst 5, 1, [], 5, 0),
  (16, .aload_n 0, 1, [], 0, 0),
  (17, .getfield 81, 3, [], 0, 0),
  (20, .invokevirtual 68, 3, [], 0, 0),
  (23, .ireturn, 1, [], 0, 0),
  (24, .aload_n 0, 1, [], 0, 0),
  (25, .invokevirtual 52, 3, [], 0, 0),
  (28, .ifCond .ne 5, 3, [(0, 33)], 0, 0),
  (31, .iconst 0, 1, [], 0, 0),
  (32, .ireturn, 1, [], 0, 0),
  (33, .aload_n 0, 1, [], 0, 0),
  (34, .invokevirtual 172, 3, [], 0, 0),
  (37, .istore_n 2, 1, [], 0, 0),
  (38, .iload_n 2, 1, [], 0, 0),
  (39, .ifCond .ge 13, 3, [(0, 52)], 0, 0),
  (42, .aload_n 0, 1, [], 0, 0),
  (43, .iconst 2, 1, [], 2, 0),
  (44, .aload_n 0, 1, [], 0, 0),
  (45, .getfield 81, 3, [], 0, 0),
  (48, .invokevirtual 68, 3, [], 0, 0),
  (51, .ireturn, 1, [], 0, 0),
  (52, .aload_n 0, 1, [], 0, 0),
  (53, .getfield 15, 3, [], 0, 0),
  (56, .getfield 175, 3, [], 0, 0),
  (59, .iload_n 1, 1, [], 0, 0),
  (60, .iload_n 2, 1, [], 0, 0),
  (61, .iastore, 1, [], 0, 0),
  (62, .aload_n 0, 1, [], 0, 0),
  (63, .iconst 1, 1, [], 1, 0),
  (64, .bipush 9, 2, [], 9, 0),
  (66, .invokevirtual 144, 3, [], 0, 0),
  (69, .ifCond .ne 5, 3, [(0, 74)], 0, 0),
  (72, .iconst 0, 1, [], 0, 0),
  (73, .ireturn, 1, [], 0, 0),
  (74, .aload_n 0, 1, [], 0, 0),
  (75, .getfield 15, 3, [], 0, 0),
  (78, .getfield 178, 3, [], 0, 0),
  (81, .iload_n 1, 1, [], 0, 0),
  (82, .aload_n 0, 1, [], 0, 0),
  (83, .getfield 88, 3, [], 0, 0),
  (86, .iastore, 1, [], 0, 0),
  (87, .aload_n 0, 1, [], 0, 0),
  (88, .iconst 1, 1, [], 1, 0),
  (89, .iconst 5, 1, [], 5, 0),
  (90, .invokevirtual 144, 3, [], 0, 0),
  (93, .ifCond .ne 5, 3, [(0, 98)], 0, 0),
  (96, .iconst 0, 1, [], 0, 0),
  (97, .ireturn, 1, [], 0, 0),
  (98, .aload_n 0, 1, [], 0, 0),
  (99, .getfield 15, 3, [], 0, 0),
  (102, .getfield 181, 3, [], 0, 0),
  (105, .iload_n 1, 1, [], 0, 0),
  (106, .aload_n 0, 1, [], 0, 0),
  (107, .getfield 88, 3, [], 0, 0),
  (110, .iastore, 1, [], 0, 0),
  (111, .aload_n 0, 1, [], 0, 0),
  (112, .getfield 15, 3, [], 0, 0),
  (115, .dup, 1, [], 0, 0),
  (116, .getfield 169, 3, [], 0, 0),
  (119, .iconst 1, 1, [], 1, 0),
  (120, .iadd, 1, [], 0, 0),
  (121, .putfield 169, 3, [], 0, 0),
  (124, .aload_n 0, 1, [], 0, 0),
  (125, .invokevirtual 137, 3, [], 0, 0),
  (128, .ireturn, 1, [], 0, 0)]
def bt_TX3_kindSaid : List bt_E := [
  (0, .aload_n 0, 1, [], 0, 0),
  (1, .ldc 184, 2, [(0, 2)], 0, 0),
  (3, .invokevirtual 109, 3, [], 0, 0),
  (6, .ifCond .eq 5, 3, [(0, 11)], 0, 0),
  (9, .iconst 0, 1, [], 0, 0),
  (10, .ireturn, 1, [], 0, 0),
  (11, .aload_n 0, 1, [], 0, 0),
  (12, .ldc 186, 2, [(0, 3)], 0, 0),
  (14, .invokevirtual 109, 3, [], 0, 0),
  (17, .ifCond .eq 5, 3, [(0, 22)], 0, 0),
  (20, .iconst 1, 1, [], 1, 0),
  (21, .ireturn, 1, [], 0, 0),
  (22, .aload_n 0, 1, [], 0, 0),
  (23, .ldc 188, 2, [(0, 4)], 0, 0),
  (25, .invokevirtual 109, 3, [], 0, 0),
  (28, .ifCond .eq 5, 3, [(0, 33)], 0, 0),
  (31, .iconst 2, 1, [], 2, 0),
  (32, .ireturn, 1, [], 0, 0),
  (33, .aload_n 0, 1, [], 0, 0),
  (34, .ldc 190, 2, [(0, 5)], 0, 0),
  (36, .invokevirtual 109, 3, [], 0, 0),
  (39, .ifCond .eq 5, 3, [(0, 44)], 0, 0),
  (42, .iconst 3, 1, [], 3, 0),
  (43, .ireturn, 1, [], 0, 0),
  (44, .aload_n 0, 1, [], 0, 0),
  (45, .ldc 192, 2, [(0, 6)], 0, 0),
  (47, .invokevirtual 109, 3, [], 0, 0),
  (50, .ifCond .eq 7, 3, [(0, 57)], 0, 0),
  (53, .iconst 4, 1, [], 4, 0),
  (54, .goto 4, 3, [(0, 58)], 0, 0),
  (57, .iconst (-1), 1, [], (-1), 0),
  (58, .ireturn, 1, [], 0, 0)]
def bt_TX4_clear : List bt_E := [
  (0, .aload_n 0, 1, [], 0, 0),
  (1, .iconst 0, 1, [], 0, 0),
  (2, .putfield 40, 3, [], 0, 0),
  (5, .aload_n 0, 1, [], 0, 0),
  (6, .iconst 0, 1, [], 0, 0),
  (7, .putfield 43, 3, [], 0, 0),
  (10, .aload_n 0, 1, [], 0, 0),
  (11, .iconst 0, 1, [], 0, 0),
  (12, .putfield 46, 3, [], 0, 0),
  (15, .aload_n 0, 1, [], 0, 0),
  (16, .iconst 0, 1, [], 0, 0),
  (17, .putfield 49, 3, [], 0, 0),
  (20, .aload_n 0, 1, [], 0, 0),
  (21, .iconst 0, 1, [], 0, 0),
  (22, .putfield 52, 3, [], 0, 0),
  (25, .aload_n 0, 1, [], 0, 0),
  (26, .iconst 0, 1, [], 0, 0),
  (27, .putfield 55, 3, [], 0, 0),
  (30, .aload_n 0, 1, [], 0, 0),
  (31, .iconst 5, 1, [], 5, 0),
  (32, .putfield 36, 3, [], 0, 0),
  (35, .aload_n 0, 1, [], 0, 0),
  (36, .iconst 0, 1, [], 0, 0),
  (37, .putfield 58, 3, [], 0, 0),
  (40, .aload_n 0, 1, [], 0, 0),
  (41, .iconst 0, 1, [], 0, 0),
  (42, .putfield 61, 3, [], 0, 0),
  (45, .aload_n 0, 1, [], 0, 0),
  (46, .iconst 0, 1, [], 0, 0),
  (47, .putfield 64, 3, [], 0, 0),
  (50, .iconst 0, 1, [], 0, 0),
  (51, .istore_n 1, 1, [], 0, 0),
  (52, .iload_n 1, 1, [], 0, 0),
  (53, .bipush 8, 2, [], 8, 0),
  (55, .if_icmp .ge 17, 3, [(0, 72)], 0, 0),
  (58, .aload_n 0, 1, [], 0, 0),
  (59, .getfield 21, 3, [], 0, 0),
  (62, .iload_n 1, 1, [], 0, 0),
  (63, .bipush 10, 2, [], 10, 0),
  (65, .iastore, 1, [], 0, 0),
  (66, .iinc 1 1, 3, [], 1, 0),
  (69, .goto (-17), 3, [(0, 52)], 0, 0),
  (72, .iconst 0, 1, [], 0, 0),
  (73, .istore_n 1, 1, [], 0, 0),
  (74, .iload_n 1, 1, [], 0, 0),
  (75, .bipush 6, 2, [], 6, 0),
  (77, .if_icmp .ge 16, 3, [(0, 93)], 0, 0),
  (80, .aload_n 0, 1, [], 0, 0),
  (81, .getfield 33, 3, [], 0, 0),
  (84, .iload_n 1, 1, [], 0, 0),
  (85, .iconst 0, 1, [], 0, 0),
  (86, .iastore, 1, [], 0, 0),
  (87, .iinc 1 1, 3, [], 1, 0),
  (90, .goto (-16), 3, [(0, 74)], 0, 0),
  (93, .return_, 1, [], 0, 0)]
def bt_TX4_takeFrom : List bt_E := [
  (0, .aload_n 0, 1, [], 0, 0),
  (1, .aload_n 1, 1, [], 0, 0),
  (2, .getfield 40, 3, [], 0, 0),
  (5, .putfield 40, 3, [], 0, 0),
  (8, .aload_n 0, 1, [], 0, 0),
  (9, .aload_n 1, 1, [], 0, 0),
  (10, .getfield 43, 3, [], 0, 0),
  (13, .putfield 43, 3, [], 0, 0),
  (16, .aload_n 0, 1, [], 0, 0),
  (17, .aload_n 1, 1, [], 0, 0),
  (18, .getfield 46, 3, [], 0, 0),
  (21, .putfield 46, 3, [], 0, 0),
  (24, .aload_n 0, 1, [], 0, 0),
  (25, .aload_n 1, 1, [], 0, 0),
  (26, .getfield 49, 3, [], 0, 0),
  (29, .putfield 49, 3, [], 0, 0),
  (32, .aload_n 0, 1, [], 0, 0),
  (33, .aload_n 1, 1, [], 0, 0),
  (34, .getfield 52, 3, [], 0, 0),
  (37, .putfield 52, 3, [], 0, 0),
  (40, .aload_n 0, 1, [], 0, 0),
  (41, .aload_n 1, 1, [], 0, 0),
  (42, .getfield 55, 3, [], 0, 0),
  (45, .putfield 55, 3, [], 0, 0),
  (48, .aload_n 0, 1, [], 0, 0),
  (49, .aload_n 1, 1, [], 0, 0),
  (50, .getfield 36, 3, [], 0, 0),
  (53, .putfield 36, 3, [], 0, 0),
  (56, .aload_n 0, 1, [], 0, 0),
  (57, .aload_n 1, 1, [], 0, 0),
  (58, .getfield 58, 3, [], 0, 0),
  (61, .putfield 58, 3, [], 0, 0),
  (64, .aload_n 0, 1, [], 0, 0),
  (65, .aload_n 1, 1, [], 0, 0),
  (66, .getfield 61, 3, [], 0, 0),
  (69, .putfield 61, 3, [], 0, 0),
  (72, .aload_n 0, 1, [], 0, 0),
  (73, .aload_n 1, 1, [], 0, 0),
  (74, .getfield 64, 3, [], 0, 0),
  (77, .putfield 64, 3, [], 0, 0),
  (80, .aload_n 1, 1, [], 0, 0),
  (81, .getfield 9, 3, [], 0, 0),
  (84, .iconst 0, 1, [], 0, 0),
  (85, .aload_n 0, 1, [], 0, 0),
  (86, .getfield 9, 3, [], 0, 0),
  (89, .iconst 0, 1, [], 0, 0),
  (90, .bipush 8, 2, [], 8, 0),
  (92, .invokestatic 67, 3, [], 0, 0),
  (95, .aload_n 1, 1, [], 0, 0),
  (96, .getfield 15, 3, [], 0, 0),
  (99, .iconst 0, 1, [], 0, 0),
  (100, .aload_n 0, 1, [], 0, 0),
  (101, .getfield 15, 3, [], 0, 0),
  (104, .iconst 0, 1, [], 0, 0),
  (105, .bipush 8, 2, [], 8, 0),
  (107, .invokestatic 67, 3, [], 0, 0),
  (110, .aload_n 1, 1, [], 0, 0),
  (111, .getfield 18, 3, [], 0, 0),
  (114, .iconst 0, 1, [], 0, 0),
  (115, .aload_n 0, 1, [], 0, 0),
  (116, .getfield 18, 3, [], 0, 0),
  (119, .iconst 0, 1, [], 0, 0),
  (120, .bipush 8, 2, [], 8, 0),
  (122, .invokestatic 67, 3, [], 0, 0),
  (125, .aload_n 1, 1, [], 0, 0),
  (126, .getfield 21, 3, [], 0, 0),
  (129, .iconst 0, 1, [], 0, 0),
  (130, .aload_n 0, 1, [], 0, 0),
  (131, .getfield 21, 3, [], 0, 0),
  (134, .iconst 0, 1, [], 0, 0),
  (135, .bipush 8, 2, [], 8, 0),
  (137, .invokestatic 67, 3, [], 0, 0),
  (140, .aload_n 1, 1, [], 0, 0),
  (141, .getfield 24, 3, [], 0, 0),
  (144, .iconst 0, 1, [], 0, 0),
  (145, .aload_n 0, 1, [], 0, 0),
  (146, .getfield 24, 3, [], 0, 0),
  (149, .iconst 0, 1, [], 0, 0),
  (150, .bipush 6, 2, [], 6, 0),
  (152, .invokestatic 67, 3, [], 0, 0),
  (155, .aload_n 1, 1, [], 0, 0),
  (156, .getfield 27, 3, [], 0, 0),
  (159, .iconst 0, 1, [], 0, 0),
  (160, .aload_n 0, 1, [], 0, 0),
  (161, .getfield 27, 3, [], 0, 0),
  (164, .iconst 0, 1, [], 0, 0),
  (165, .bipush 6, 2, [], 6, 0),
  (167, .invokestatic 67, 3, [], 0, 0),
  (170, .aload_n 1, 1, [], 0, 0),
  (171, .getfield 30, 3, [], 0, 0),
  (174, .iconst 0, 1, [], 0, 0),
  (175, .aload_n 0, 1, [], 0, 0),
  (176, .getfield 30, 3, [], 0, 0),
  (179, .iconst 0, 1, [], 0, 0),
  (180, .bipush 6, 2, [], 6, 0),
  (182, .invokestatic 67, 3, [], 0, 0),
  (185, .aload_n 1, 1, [], 0, 0),
  (186, .getfield 33, 3, [], 0, 0),
  (189, .iconst 0, 1, [], 0, 0),
  (190, .aload_n 0, 1, [], 0, 0),
  (191, .getfield 33, 3, [], 0, 0),
  (194, .iconst 0, 1, [], 0, 0),
  (195, .bipush 6, 2, [], 6, 0),
  (197, .invokestatic 67, 3, [], 0, 0),
  (200, .return_, 1, [], 0, 0)]
def bt_TX4_everybody : List bt_E := [
  (0, .iconst 1, 1, [], 1, 0),
  (1, .aload_n 0, 1, [], 0, 0),
  (2, .getfield 52, 3, [], 0, 0),
  (5, .ishl, 1, [], 0, 0),
  (6, .iconst 1, 1, [], 1, 0),
  (7, .isub, 1, [], 0, 0),
  (8, .ireturn, 1, [], 0, 0)]
def bt_TX4_behind : List bt_E := [
  (0, .aload_n 0, 1, [], 0, 0),
  (1, .invokevirtual 73, 3, [], 0, 0),
  (4, .iload_n 1, 1, [], 0, 0),
  (5, .iconst (-1), 1, [], (-1), 0),
  (6, .ixor, 1, [], 0, 0),
  (7, .iand, 1, [], 0, 0),
  (8, .ireturn, 1, [], 0, 0)]
def bt_TX4_firstBehind : List bt_E := [
  (0, .iconst 0, 1, [], 0, 0),
  (1, .istore_n 1, 1, [], 0, 0),
  (2, .iload_n 1, 1, [], 0, 0),
  (3, .aload_n 0, 1, [], 0, 0),
  (4, .getfield 52, 3, [], 0, 0),
  (7, .if_icmp .ge 22, 3, [(0, 29)], 0, 0),
  (10, .aload_n 0, 1, [], 0, 0),
  (11, .getfield 55, 3, [], 0, 0),
  (14, .iload_n 1, 1, [], 0, 0),
  (15, .invokestatic 77, 3, [], 0, 0),
  (18, .ifCond .ne 5, 3, [(0, 23)], 0, 0),
  (21, .iload_n 1, 1, [], 0, 0),
  (22, .ireturn, 1, [], 0, 0),
  (23, .iinc 1 1, 3, [], 1, 0),
  (26, .goto (-24), 3, [(0, 2)], 0, 0),
  (29, .iconst (-1), 1, [], (-1), 0),
  (30, .ireturn, 1, [], 0, 0)]
def bt_TX4_behindAheadOf : List bt_E := [
  (0, .aload_n 0, 1, [], 0, 0),
  (1, .getfield 55, 3, [], 0, 0),
  (4, .iload_n 1, 1, [], 0, 0),
  (5, .invokestatic 77, 3, [], 0, 0),
  (8, .iconst 1, 1, [], 1, 0),
  (9, .if_icmp .ne 7, 3, [(0, 16)], 0, 0),
  (12, .iconst 0, 1, [], 0, 0),
  (13, .goto 20, 3, [(0, 33)], 0, 0),
  (16, .aload_n 0, 1, [], 0, 0),
  (17, .aload_n 0, 1, [], 0, 0),
  (18, .getfield 55, 3, [], 0, 0),
  (21, .invokevirtual 81, 3, [], 0, 0),
  (24, .iconst 1, 1, [], 1, 0),
  (25, .iload_n 1, 1, [], 0, 0),
  (26, .ishl, 1, [], 0, 0),
  (27, .iconst 1, 1, [], 1, 0),
  (28, .isub, 1, [], 0, 0),
  (29, .iand, 1, [], 0, 0),
  (30, .invokestatic 85, 3, [], 0, 0),
  (33, .ireturn, 1, [], 0, 0)]
def bt_TX4_allHaveCome : List bt_E := [
  (0, .aload_n 0, 1, [], 0, 0),
  (1, .getfield 61, 3, [], 0, 0),
  (4, .aload_n 0, 1, [], 0, 0),
  (5, .getfield 40, 3, [], 0, 0),
  (8, .if_icmp .lt 7, 3, [(0, 15)], 0, 0),
  (11, .iconst 1, 1, [], 1, 0),
  (12, .goto 4, 3, [(0, 16)], 0, 0),
  (15, .iconst 0, 1, [], 0, 0),
  (16, .ireturn, 1, [], 0, 0)]
def bt_TX4_stretchesLeft : List bt_E := [
  (0, .iconst 1, 1, [], 1, 0),
  (1, .aload_n 0, 1, [], 0, 0),
  (2, .getfield 40, 3, [], 0, 0),
  (5, .ishl, 1, [], 0, 0),
  (6, .iconst 1, 1, [], 1, 0),
  (7, .aload_n 0, 1, [], 0, 0),
  (8, .getfield 61, 3, [], 0, 0),
  (11, .ishl, 1, [], 0, 0),
  (12, .isub, 1, [], 0, 0),
  (13, .ireturn, 1, [], 0, 0)]
def bt_TX4_milesLeft : List bt_E := [
  (0, .iconst 0, 1, [], 0, 0),
  (1, .istore_n 1, 1, [], 0, 0),
  (2, .aload_n 0, 1, [], 0, 0),
  (3, .getfield 61, 3, [], 0, 0),
  (6, .istore_n 2, 1, [], 0, 0),
  (7, .iload_n 2, 1, [], 0, 0),
  (8, .aload_n 0, 1, [], 0, 0),
  (9, .getfield 40, 3, [], 0, 0),
  (12, .if_icmp .ge 18, 3, [(0, 30)], 0, 0),
  (15, .iload_n 1, 1, [], 0, 0),
  (16, .aload_n 0, 1, [], 0, 0),
  (17, .getfield 9, 3, [], 0, 0),
  (20, .iload_n 2, 1, [], 0, 0),
  (21, .iaload, 1, [], 0, 0),
  (22, .iadd, 1, [], 0, 0),
  (23, .istore_n 1, 1, [], 0, 0),
  (24, .iinc 2 1, 3, [], 1, 0),
  (27, .goto (-20), 3, [(0, 7)], 0, 0),
  (30, .iload_n 1, 1, [], 0, 0),
  (31, .ireturn, 1, [], 0, 0)]
def bt_TX4_sumOfTimes : List bt_E := [
  (0, .iconst 0, 1, [], 0, 0),
  (1, .istore_n 1, 1, [], 0, 0),
  (2, .iconst 0, 1, [], 0, 0),
  (3, .istore_n 2, 1, [], 0, 0),
  (4, .iload_n 2, 1, [], 0, 0),
  (5, .aload_n 0, 1, [], 0, 0),
  (6, .getfield 52, 3, [], 0, 0),
  (9, .if_icmp .ge 18, 3, [(0, 27)], 0, 0),
  (12, .iload_n 1, 1, [], 0, 0),
  (13, .aload_n 0, 1, [], 0, 0),
  (14, .getfield 33, 3, [], 0, 0),
  (17, .iload_n 2, 1, [], 0, 0),
  (18, .iaload, 1, [], 0, 0),
  (19, .iadd, 1, [], 0, 0),
  (20, .istore_n 1, 1, [], 0, 0),
  (21, .iinc 2 1, 3, [], 1, 0),
  (24, .goto (-20), 3, [(0, 4)], 0, 0),
  (27, .iload_n 1, 1, [], 0, 0),
  (28, .ireturn, 1, [], 0, 0)]
def bt_TX4_ofUse : List bt_E := [
  (0, .aload_n 0, 1, [], 0, 0),
  (1, .getfield 49, 3, [], 0, 0),
  (4, .iload_n 1, 1, [], 0, 0),
  (5, .invokestatic 77, 3, [], 0, 0),
  (8, .iconst 1, 1, [], 1, 0),
  (9, .if_icmp .ne 6, 3, [(0, 15)], 0, 0),
  (12, .bipush 9, 2, [], 9, 0),
  (14, .ireturn, 1, [], 0, 0),
  (15, .iconst 0, 1, [], 0, 0),
  (16, .aload_n 0, 1, [], 0, 0),
  (17, .getfield 15, 3, [], 0, 0),
  (20, .iload_n 1, 1, [], 0, 0),
  (21, .iaload, 1, [], 0, 0),
  (22, .aload_n 0, 1, [], 0, 0),
  (23, .getfield 43, 3, [], 0, 0),
  (26, .iload_n 1, 1, [], 0, 0),
  (27, .invokestatic 77, 3, [], 0, 0),
  (30, .isub, 1, [], 0, 0),
  (31, .invokestatic 90, 3, [], 0, 0),
  (34, .istore_n 3, 1, [], 0, 0),
  (35, .iload_n 2, 1, [], 0, 0),
  (36, .iload_n 3, 1, [], 0, 0),
  (37, .invokestatic 95, 3, [], 0, 0),
  (40, .ireturn, 1, [], 0, 0)]
def bt_TX4_comers : List bt_E := [
  (0, .aload_n 0, 1, [], 0, 0),
  (1, .iload_n 3, 1, [], 0, 0),
  (2, .invokevirtual 81, 3, [], 0, 0),
  (5, .istore 4, 2, [], 0, 0),
  (7, .aload_n 0, 1, [], 0, 0),
  (8, .getfield 46, 3, [], 0, 0),
  (11, .iload_n 1, 1, [], 0, 0),
  (12, .invokestatic 77, 3, [], 0, 0),
  (15, .iconst 1, 1, [], 1, 0),
  (16, .if_icmp .ne 25, 3, [(0, 41)], 0, 0),
  (19, .aload_n 0, 1, [], 0, 0),
  (20, .getfield 58, 3, [], 0, 0),
  (23, .ifCond .eq 18, 3, [(0, 41)], 0, 0),
  (26, .iload 4, 2, [], 0, 0),
  (28, .invokestatic 85, 3, [], 0, 0),
  (31, .aload_n 0, 1, [], 0, 0),
  (32, .getfield 58, 3, [], 0, 0),
  (35, .if_icmp .lt 6, 3, [(0, 41)], 0, 0),
  (38, .iload 4, 2, [], 0, 0),
  (40, .ireturn, 1, [], 0, 0),
  (41, .aload_n 0, 1, [], 0, 0),
  (42, .iload_n 1, 1, [], 0, 0),
  (43, .iload_n 2, 1, [], 0, 0),
  (44, .invokevirtual 98, 3, [], 0, 0),
  (47, .istore 5, 2, [], 0, 0),
  (49, .iconst 0, 1, [], 0, 0),
  (50, .istore 6, 2, [], 0, 0),
  (52, .iconst 0, 1, [], 0, 0),
  (53, .istore 7, 2, [], 0, 0),
  (55, .iconst 0, 1, [], 0, 0),
  (56, .istore 8, 2, [], 0, 0),
  (58, .iload 8, 2, [], 0, 0),
  (60, .aload_n 0, 1, [], 0, 0),
  (61, .getfield 52, 3, [], 0, 0),
  (64, .if_icmp .ge 77, 3, [(0, 141)], 0, 0),
  (67, .iload 4, 2, [], 0, 0),
  (69, .iload 8, 2, [], 0, 0),
  (71, .invokestatic 77, 3, [], 0, 0),
  (74, .ifCond .ne 6, 3, [(0, 80)], 0, 0),
  (77, .goto 58, 3, [(0, 135)], 0, 0),
  (80, .iload 8, 2, [], 0, 0),
  (82, .ifCond .le 20, 3, [(0, 102)], 0, 0),
  (85, .iload 6, 2, [], 0, 0),
  (87, .iload 8, 2, [], 0, 0),
  (89, .iconst 1, 1, [], 1, 0),
  (90, .isub, 1, [], 0, 0),
  (91, .invokestatic 77, 3, [], 0, 0),
  (94, .iconst 1, 1, [], 1, 0),
  (95, .if_icmp .ne 7, 3, [(0, 102)], 0, 0),
  (98, .iconst 1, 1, [], 1, 0),
  (99, .goto 4, 3, [(0, 103)], 0, 0),
  (102, .iconst 0, 1, [], 0, 0),
  (103, .istore 9, 2, [], 0, 0),
  (105, .aload_n 0, 1, [], 0, 0),
  (106, .iload 8, 2, [], 0, 0),
  (108, .iload 5, 2, [], 0, 0),
  (110, .iload 7, 2, [], 0, 0),
  (112, .iload 9, 2, [], 0, 0),
  (114, .invokevirtual 101, 3, [], 0, 0),
  (117, .ifCond .eq 15, 3, [(0, 132)], 0, 0),
  (120, .iload 6, 2, [], 0, 0),
  (122, .iconst 1, 1, [], 1, 0),
  (123, .iload 8, 2, [], 0, 0),
  (125, .ishl, 1, [], 0, 0),
  (126, .ior, 1, [], 0, 0),
  (127, .istore 6, 2, [], 0, 0),
  (129, .goto 6, 3, [(0, 135)], 0, 0),
  (132, .iinc 7 1, 3, [], 1, 0),
  (135, .iinc 8 1, 3, [], 1, 0),
  (138, .goto (-80), 3, [(0, 58)], 0, 0),
  (141, .iload 6, 2, [], 0, 0),
  (143, .ireturn, 1, [], 0, 0)]
def bt_TX4_passes : List bt_E := [
  (0, .aload_n 0, 1, [], 0, 0),
  (1, .getfield 27, 3, [], 0, 0),
  (4, .iload_n 1, 1, [], 0, 0),
  (5, .iaload, 1, [], 0, 0),
  (6, .istore 5, 2, [], 0, 0),
  (8, .aload_n 0, 1, [], 0, 0),
  (9, .getfield 24, 3, [], 0, 0),
  (12, .iload_n 1, 1, [], 0, 0),
  (13, .iaload, 1, [], 0, 0),
  (14, .tableswitch 101 1 4 #[30, 46, 62, 83], 30, [(0, 115), (1, 44), (2, 60), (3, 76), (4, 97)], 0, 0),
  (44, .iload_n 3, 1, [], 0, 0),
  (45, .ifCond .ne 13, 3, [(0, 58)], 0, 0),
  (48, .iload_n 2, 1, [], 0, 0),
  (49, .iload 5, 2, [], 0, 0),
  (51, .if_icmp .lt 7, 3, [(0, 58)], 0, 0),
  (54, .iconst 1, 1, [], 1, 0),
  (55, .goto 4, 3, [(0, 59)], 0, 0),
  (58, .iconst 0, 1, [], 0, 0),
  (59, .ireturn, 1, [], 0, 0),
  (60, .iload_n 2, 1, [], 0, 0),
  (61, .iload 5, 2, [], 0, 0),
  (63, .iload_n 3, 1, [], 0, 0),
  (64, .iconst 1, 1, [], 1, 0),
  (65, .iadd, 1, [], 0, 0),
  (66, .imul, 1, [], 0, 0),
  (67, .if_icmp .lt 7, 3, [(0, 74)], 0, 0),
  (70, .iconst 1, 1, [], 1, 0),
  (71, .goto 4, 3, [(0, 75)], 0, 0),
  (74, .iconst 0, 1, [], 0, 0),
  (75, .ireturn, 1, [], 0, 0),
  (76, .iload_n 3, 1, [], 0, 0),
  (77, .ifCond .ne 18, 3, [(0, 95)], 0, 0),
  (80, .iload 4, 2, [], 0, 0),
  (82, .ifCond .ne 9, 3, [(0, 91)], 0, 0),
  (85, .iload_n 2, 1, [], 0, 0),
  (86, .iload 5, 2, [], 0, 0),
  (88, .if_icmp .lt 7, 3, [(0, 95)], 0, 0),
  (91, .iconst 1, 1, [], 1, 0),
  (92, .goto 4, 3, [(0, 96)], 0, 0),
  (95, .iconst 0, 1, [], 0, 0),
  (96, .ireturn, 1, [], 0, 0),
  (97, .iload_n 3, 1, [], 0, 0),
  (98, .ifCond .ne 15, 3, [(0, 113)], 0, 0),
  (101, .iload_n 2, 1, [], 0, 0),
  (102, .iconst 2, 1, [], 2, 0),
  (103, .iload 5, 2, [], 0, 0),
  (105, .imul, 1, [], 0, 0),
  (106, .if_icmp .lt 7, 3, [(0, 113)], 0, 0),
  (109, .iconst 1, 1, [], 1, 0),
  (110, .goto 4, 3, [(0, 114)], 0, 0),
  (113, .iconst 0, 1, [], 0, 0),
  (114, .ireturn, 1, [], 0, 0),
  (115, .iconst 0, 1, [], 0, 0),
  (116, .ireturn, 1, [], 0, 0)]
def bt_TX4_minutes : List bt_E := [
  (0, .aload_n 0, 1, [], 0, 0),
  (1, .getfield 9, 3, [], 0, 0),
  (4, .iload_n 1, 1, [], 0, 0),
  (5, .iaload, 1, [], 0, 0),
  (6, .iload_n 3, 1, [], 0, 0),
  (7, .iload_n 2, 1, [], 0, 0),
  (8, .invokestatic 77, 3, [], 0, 0),
  (11, .iconst 1, 1, [], 1, 0),
  (12, .if_icmp .ne 12, 3, [(0, 24)], 0, 0),
  (15, .aload_n 0, 1, [], 0, 0),
  (16, .getfield 30, 3, [], 0, 0),
  (19, .iload_n 2, 1, [], 0, 0),
  (20, .iaload, 1, [], 0, 0),
  (21, .goto 7, 3, [(0, 28)], 0, 0),
  (24, .aload_n 0, 1, [], 0, 0),
  (25, .getfield 36, 3, [], 0, 0),
  (28, .imul, 1, [], 0, 0),
  (29, .ireturn, 1, [], 0, 0)]
def bt_TX4_driveOne : List bt_E := [
  (0, .aload_n 0, 1, [], 0, 0),
  (1, .aload_n 0, 1, [], 0, 0),
  (2, .getfield 61, 3, [], 0, 0),
  (5, .iload_n 1, 1, [], 0, 0),
  (6, .aload_n 0, 1, [], 0, 0),
  (7, .getfield 55, 3, [], 0, 0),
  (10, .invokevirtual 105, 3, [], 0, 0),
  (13, .istore_n 2, 1, [], 0, 0),
  (14, .aload_n 0, 1, [], 0, 0),
  (15, .dup, 1, [], 0, 0),
  (16, .getfield 55, 3, [], 0, 0),
  (19, .iload_n 2, 1, [], 0, 0),
  (20, .ior, 1, [], 0, 0),
  (21, .putfield 55, 3, [], 0, 0),
  (24, .iconst 0, 1, [], 0, 0),
  (25, .istore_n 3, 1, [], 0, 0),
  (26, .iload_n 3, 1, [], 0, 0),
  (27, .aload_n 0, 1, [], 0, 0),
  (28, .getfield 52, 3, [], 0, 0),
  (31, .if_icmp .ge 31, 3, [(0, 62)], 0, 0),
  (34, .aload_n 0, 1, [], 0, 0),
  (35, .getfield 33, 3, [], 0, 0),
  (38, .iload_n 3, 1, [], 0, 0),
  (39, .dup2, 1, [], 0, 0),
  (40, .iaload, 1, [], 0, 0),
  (41, .aload_n 0, 1, [], 0, 0),
  (42, .aload_n 0, 1, [], 0, 0),
  (43, .getfield 61, 3, [], 0, 0),
  (46, .iload_n 3, 1, [], 0, 0),
  (47, .aload_n 0, 1, [], 0, 0),
  (48, .getfield 55, 3, [], 0, 0),
  (51, .invokevirtual 109, 3, [], 0, 0),
  (54, .iadd, 1, [], 0, 0),
  (55, .iastore, 1, [], 0, 0),
  (56, .iinc 3 1, 3, [], 1, 0),
  (59, .goto (-33), 3, [(0, 26)], 0, 0),
  (62, .aload_n 0, 1, [], 0, 0),
  (63, .dup, 1, [], 0, 0),
  (64, .getfield 64, 3, [], 0, 0),
  (67, .aload_n 0, 1, [], 0, 0),
  (68, .getfield 9, 3, [], 0, 0),
  (71, .aload_n 0, 1, [], 0, 0),
  (72, .getfield 61, 3, [], 0, 0),
  (75, .iaload, 1, [], 0, 0),
  (76, .aload_n 0, 1, [], 0, 0),
  (77, .getfield 36, 3, [], 0, 0),
  (80, .imul, 1, [], 0, 0),
  (81, .iadd, 1, [], 0, 0),
  (82, .putfield 64, 3, [], 0, 0),
  (85, .aload_n 0, 1, [], 0, 0),
  (86, .dup, 1, [], 0, 0),
  (87, .getfield 61, 3, [], 0, 0),
  (90, .iconst 1, 1, [], 1, 0),
  (91, .iadd, 1, [], 0, 0),
  (92, .putfield 61, 3, [], 0, 0),
  (95, .iload_n 2, 1, [], 0, 0),
  (96, .ireturn, 1, [], 0, 0)]
def bt_TX4_driveToEnd : List bt_E := [
  (0, .aload_n 0, 1, [], 0, 0),
  (1, .getfield 61, 3, [], 0, 0),
  (4, .istore_n 1, 1, [], 0, 0),
  (5, .iload_n 1, 1, [], 0, 0),
  (6, .aload_n 0, 1, [], 0, 0),
  (7, .getfield 40, 3, [], 0, 0),
  (10, .if_icmp .ge 20, 3, [(0, 30)], 0, 0),
  (13, .aload_n 0, 1, [], 0, 0),
  (14, .aload_n 0, 1, [], 0, 0),
  (15, .getfield 18, 3, [], 0, 0),
  (18, .iload_n 1, 1, [], 0, 0),
  (19, .iaload, 1, [], 0, 0),
  (20, .invokevirtual 112, 3, [], 0, 0),
  (23, .pop, 1, [], 0, 0),
  (24, .iinc 1 1, 3, [], 1, 0),
  (27, .goto (-22), 3, [(0, 5)], 0, 0),
  (30, .aload_n 0, 1, [], 0, 0),
  (31, .invokevirtual 115, 3, [], 0, 0),
  (34, .ireturn, 1, [], 0, 0)]
def bt_TX5_feed : List bt_E := [
  (0, .iload_n 1, 1, [], 0, 0),
  (1, .iconst 0, 1, [], 0, 0),
  (2, .bipush 127, 2, [], 127, 0),
  (4, .invokestatic 57, 3, [], 0, 0),
  (7, .ifCond .ne 5, 3, [(0, 12)], 0, 0),
  (10, .iconst (-1), 1, [], (-1), 0),
  (11, .ireturn, 1, [], 0, 0),
  (12, .aload_n 0, 1, [], 0, 0),
  (13, .getfield 61, 3, [], 0, 0),
  (16, .sipush 160, 3, [], 160, 0),
  (19, .if_icmp .lt 6, 3, [(0, 25)], 0, 0),
  (22, .bipush (-3), 2, [], (-3), 0),
  (24, .ireturn, 1, [], 0, 0),
  (25, .aload_n 0, 1, [], 0, 0),
  (26, .getfield 9, 3, [], 0, 0),
  (29, .aload_n 0, 1, [], 0, 0),
  (30, .getfield 61, 3, [], 0, 0),
  (33, .iload_n 1, 1, [], 0, 0),
  (34, .i2b, 1, [], 0, 0),
  (35, .bastore, 1, [], 0, 0),
  (36, .aload_n 0, 1, [], 0, 0),
  (37, .dup, 1, [], 0, 0),
  (38, .getfield 61, 3, [], 0, 0),
  (41, .iconst 1, 1, [], 1, 0),
  (42, .iadd, 1, [], 0, 0),
  (43, .putfield 61, 3, [], 0, 0),
  (46, .aload_n 0, 1, [], 0, 0),
  (47, .getfield 61, 3, [], 0, 0),
  (50, .ireturn, 1, [], 0, 0)]
def bt_TX5_end : List bt_E := [
  (0, .iload_n 1, 1, [], 0, 0),
  (1, .iconst 0, 1, [], 0, 0),
  (2, .aload_n 0, 1, [], 0, 0),
  (3, .getfield 61, 3, [], 0, 0),
  (6, .invokestatic 57, 3, [], 0, 0),
  (9, .ifCond .ne 5, 3, [(0, 14)], 0, 0),
  (12, .iconst (-1), 1, [], (-1), 0),
  (13, .ireturn, 1, [], 0, 0),
  (14, .aload_n 0, 1, [], 0, 0),
  (15, .getfield 61, 3, [], 0, 0),
  (18, .istore_n 2, 1, [], 0, 0),
  (19, .aload_n 0, 1, [], 0, 0),
  (20, .iload_n 1, 1, [], 0, 0),
  (21, .putfield 61, 3, [], 0, 0),
  (24, .iload_n 2, 1, [], 0, 0),
  (25, .ireturn, 1, [], 0, 0)]
def bt_TX5_text : List bt_E := [
  (0, .aload_n 0, 1, [], 0, 0),
  (1, .getfield 28, 3, [], 0, 0),
  (4, .aload_n 0, 1, [], 0, 0),
  (5, .getfield 61, 3, [], 0, 0),
  (8, .invokevirtual 65, 3, [], 0, 0),
  (11, .istore_n 1, 1, [], 0, 0),
  (12, .aload_n 0, 1, [], 0, 0),
  (13, .iconst 0, 1, [], 0, 0),
  (14, .putfield 61, 3, [], 0, 0),
  (17, .aload_n 0, 1, [], 0, 0),
  (18, .aload_n 0, 1, [], 0, 0),
  (19, .getfield 28, 3, [], 0, 0),
  (22, .getfield 69, 3, [], 0, 0),
  (25, .putfield 72, 3, [], 0, 0),
  (28, .aload_n 0, 1, [], 0, 0),
  (29, .getfield 72, 3, [], 0, 0),
  (32, .ifCond .eq 14, 3, [(0, 46)], 0, 0),
  (35, .bipush (-10), 2, [], (-10), 0),
  (37, .aload_n 0, 1, [], 0, 0),
  (38, .getfield 28, 3, [], 0, 0),
  (41, .getfield 75, 3, [], 0, 0),
  (44, .isub, 1, [], 0, 0),
  (45, .ireturn, 1, [], 0, 0),
  (46, .aload_n 0, 1, [], 0, 0),
  (47, .getfield 16, 3, [], 0, 0),
  (50, .aload_n 0, 1, [], 0, 0),
  (51, .getfield 20, 3, [], 0, 0),
  (54, .invokevirtual 78, 3, [], 0, 0),
  (57, .aload_n 0, 1, [], 0, 0),
  (58, .getfield 46, 3, [], 0, 0),
  (61, .iconst 0, 1, [], 0, 0),
  (62, .putfield 82, 3, [], 0, 0),
  (65, .aload_n 0, 1, [], 0, 0),
  (66, .iconst 0, 1, [], 0, 0),
  (67, .putfield 85, 3, [], 0, 0),
  (70, .iload_n 1, 1, [], 0, 0),
  (71, .ireturn, 1, [], 0, 0)]
def bt_TX5_fault : List bt_E := [
  (0, .aload_n 0, 1, [], 0, 0),
  (1, .getfield 72, 3, [], 0, 0),
  (4, .ireturn, 1, [], 0, 0)]
def bt_TX5_rule : List bt_E := [
  (0, .iload_n 1, 1, [], 0, 0),
  (1, .tableswitch 99 0 6 #[43, 51, 59, 67, 75, 83, 91], 43, [(0, 100), (0, 44), (1, 52), (2, 60), (3, 68), (4, 76), (5, 84), (6, 92)], 0, 0),
  (44, .aload_n 0, 1, [], 0, 0),
  (45, .getfield 16, 3, [], 0, 0),
  (48, .getfield 88, 3, [], 0, 0),
  (51, .ireturn, 1, [], 0, 0),
  (52, .aload_n 0, 1, [], 0, 0),
  (53, .getfield 16, 3, [], 0, 0),
  (56, .getfield 91, 3, [], 0, 0),
  (59, .ireturn, 1, [], 0, 0),
  (60, .aload_n 0, 1, [], 0, 0),
  (61, .getfield 16, 3, [], 0, 0),
  (64, .getfield 94, 3, [], 0, 0),
  (67, .ireturn, 1, [], 0, 0),
  (68, .aload_n 0, 1, [], 0, 0),
  (69, .getfield 16, 3, [], 0, 0),
  (72, .getfield 97, 3, [], 0, 0),
  (75, .ireturn, 1, [], 0, 0),
  (76, .aload_n 0, 1, [], 0, 0),
  (77, .getfield 16, 3, [], 0, 0),
  (80, .getfield 100, 3, [], 0, 0),
  (83, .ireturn, 1, [], 0, 0),
  (84, .aload_n 0, 1, [], 0, 0),
  (85, .getfield 16, 3, [], 0, 0),
  (88, .getfield 103, 3, [], 0, 0),
  (91, .ireturn, 1, [], 0, 0),
  (92, .aload_n 0, 1, [], 0, 0),
  (93, .getfield 16, 3, [], 0, 0),
  (96, .getfield 106, 3, [], 0, 0),
  (99, .ireturn, 1, [], 0, 0),
  (100, .iconst (-1), 1, [], (-1), 0),
  (101, .ireturn, 1, [], 0, 0)]
def bt_TX5_road : List bt_E := [
  (0, .aload_n 0, 1, [], 0, 0),
  (1, .iload_n 1, 1, [], 0, 0),
  (2, .invokevirtual 109, 3, [], 0, 0),
  (5, .ifCond .ne 5, 3, [(0, 10)], 0, 0),
  (8, .iconst (-1), 1, [], (-1), 0),
  (9, .ireturn, 1, [], 0, 0),
  (10, .iload_n 2, 1, [], 0, 0),
  (11, .tableswitch 117 0 6 #[41, 51, 61, 71, 81, 93, 105], 41, [(0, 128), (0, 52), (1, 62), (2, 72), (3, 82), (4, 92), (5, 104), (6, 116)], 0, 0),
  (52, .aload_n 0, 1, [], 0, 0),
  (53, .getfield 16, 3, [], 0, 0),
  (56, .getfield 113, 3, [], 0, 0),
  (59, .iload_n 1, 1, [], 0, 0),
  (60, .iaload, 1, [], 0, 0),
  (61, .ireturn, 1, [], 0, 0),
  (62, .aload_n 0, 1, [], 0, 0),
  (63, .getfield 16, 3, [], 0, 0),
  (66, .getfield 117, 3, [], 0, 0),
  (69, .iload_n 1, 1, [], 0, 0),
  (70, .iaload, 1, [], 0, 0),
  (71, .ireturn, 1, [], 0, 0),
  (72, .aload_n 0, 1, [], 0, 0),
  (73, .getfield 16, 3, [], 0, 0),
  (76, .getfield 120, 3, [], 0, 0),
  (79, .iload_n 1, 1, [], 0, 0),
  (80, .iaload, 1, [], 0, 0),
  (81, .ireturn, 1, [], 0, 0),
  (82, .aload_n 0, 1, [], 0, 0),
  (83, .getfield 16, 3, [], 0, 0),
  (86, .getfield 123, 3, [], 0, 0),
  (89, .iload_n 1, 1, [], 0, 0),
  (90, .iaload, 1, [], 0, 0),
  (91, .ireturn, 1, [], 0, 0),
  (92, .aload_n 0, 1, [], 0, 0),
  (93, .getfield 16, 3, [], 0, 0),
  (96, .getfield 126, 3, [], 0, 0),
  (99, .iload_n 1, 1, [], 0, 0),
  (100, .invokestatic 129, 3, [], 0, 0),
  (103, .ireturn, 1, [], 0, 0),
  (104, .aload_n 0, 1, [], 0, 0),
  (105, .getfield 16, 3, [], 0, 0),
  (108, .getfield 133, 3, [], 0, 0),
  (111, .iload_n 1, 1, [], 0, 0),
  (112, .invokestatic 129, 3, [], 0, 0),
  (115, .ireturn, 1, [], 0, 0),
  (116, .aload_n 0, 1, [], 0, 0),
  (117, .getfield 16, 3, [], 0, 0),
  (120, .getfield 136, 3, [], 0, 0),
  (123, .iload_n 1, 1, [], 0, 0),
  (124, .invokestatic 129, 3, [], 0, 0),
  (127, .ireturn, 1, [], 0, 0),
  (128, .iconst (-1), 1, [], (-1), 0),
  (129, .ireturn, 1, [], 0, 0)]
def bt_TX5_car : List bt_E := [
  (0, .aload_n 0, 1, [], 0, 0),
  (1, .iload_n 1, 1, [], 0, 0),
  (2, .invokevirtual 139, 3, [], 0, 0),
  (5, .ifCond .ne 5, 3, [(0, 10)], 0, 0),
  (8, .iconst (-1), 1, [], (-1), 0),
  (9, .ireturn, 1, [], 0, 0),
  (10, .iload_n 2, 1, [], 0, 0),
  (11, .tableswitch 98 0 5 #[37, 47, 57, 67, 77, 89], 37, [(0, 109), (0, 48), (1, 58), (2, 68), (3, 78), (4, 88), (5, 100)], 0, 0),
  (48, .aload_n 0, 1, [], 0, 0),
  (49, .getfield 16, 3, [], 0, 0),
  (52, .getfield 142, 3, [], 0, 0),
  (55, .iload_n 1, 1, [], 0, 0),
  (56, .iaload, 1, [], 0, 0),
  (57, .ireturn, 1, [], 0, 0),
  (58, .aload_n 0, 1, [], 0, 0),
  (59, .getfield 16, 3, [], 0, 0),
  (62, .getfield 145, 3, [], 0, 0),
  (65, .iload_n 1, 1, [], 0, 0),
  (66, .iaload, 1, [], 0, 0),
  (67, .ireturn, 1, [], 0, 0),
  (68, .aload_n 0, 1, [], 0, 0),
  (69, .getfield 16, 3, [], 0, 0),
  (72, .getfield 148, 3, [], 0, 0),
  (75, .iload_n 1, 1, [], 0, 0),
  (76, .iaload, 1, [], 0, 0),
  (77, .ireturn, 1, [], 0, 0),
  (78, .aload_n 0, 1, [], 0, 0),
  (79, .getfield 16, 3, [], 0, 0),
  (82, .getfield 151, 3, [], 0, 0),
  (85, .iload_n 1, 1, [], 0, 0),
  (86, .iaload, 1, [], 0, 0),
  (87, .ireturn, 1, [], 0, 0),
  (88, .aload_n 0, 1, [], 0, 0),
  (89, .getfield 16, 3, [], 0, 0),
  (92, .getfield 106, 3, [], 0, 0),
  (95, .iload_n 1, 1, [], 0, 0),
  (96, .invokestatic 129, 3, [], 0, 0),
  (99, .ireturn, 1, [], 0, 0),
  (100, .aload_n 0, 1, [], 0, 0),
  (101, .getfield 16, 3, [], 0, 0),
  (104, .iload_n 1, 1, [], 0, 0),
  (105, .invokevirtual 154, 3, [], 0, 0),
  (108, .ireturn, 1, [], 0, 0),
  (109, .iconst (-1), 1, [], (-1), 0),
  (110, .ireturn, 1, [], 0, 0)]
def bt_TX5_use : List bt_E := [
  (0, .aload_n 0, 1, [], 0, 0),
  (1, .iload_n 1, 1, [], 0, 0),
  (2, .invokevirtual 109, 3, [], 0, 0),
  (5, .ifCond .eq 13, 3, [(0, 18)], 0, 0),
  (8, .iload_n 2, 1, [], 0, 0),
  (9, .iconst 0, 1, [], 0, 0),
  (10, .bipush 9, 2, [], 9, 0),
  (12, .invokestatic 57, 3, [], 0, 0),
  (15, .ifCond .ne 5, 3, [(0, 20)], 0, 0),
  (18, .iconst (-1), 1, [], (-1), 0),
  (19, .ireturn, 1, [], 0, 0),
  (20, .aload_n 0, 1, [], 0, 0),
  (21, .getfield 16, 3, [], 0, 0),
  (24, .iload_n 1, 1, [], 0, 0),
  (25, .iload_n 2, 1, [], 0, 0),
  (26, .invokevirtual 157, 3, [], 0, 0),
  (29, .ireturn, 1, [], 0, 0)]
def bt_TX5_gap : List bt_E := [
  (0, .aload_n 0, 1, [], 0, 0),
  (1, .iload_n 1, 1, [], 0, 0),
  (2, .invokevirtual 109, 3, [], 0, 0),
  (5, .ifCond .eq 13, 3, [(0, 18)], 0, 0),
  (8, .iload_n 2, 1, [], 0, 0),
  (9, .iconst 0, 1, [], 0, 0),
  (10, .bipush 9, 2, [], 9, 0),
  (12, .invokestatic 57, 3, [], 0, 0),
  (15, .ifCond .ne 5, 3, [(0, 20)], 0, 0),
  (18, .iconst (-1), 1, [], (-1), 0),
  (19, .ireturn, 1, [], 0, 0),
  (20, .aload_n 0, 1, [], 0, 0),
  (21, .getfield 16, 3, [], 0, 0),
  (24, .getfield 120, 3, [], 0, 0),
  (27, .iload_n 1, 1, [], 0, 0),
  (28, .iload_n 2, 1, [], 0, 0),
  (29, .invokestatic 160, 3, [], 0, 0),
  (32, .ireturn, 1, [], 0, 0)]
def bt_TX5_sight : List bt_E := [
  (0, .aload_n 0, 1, [], 0, 0),
  (1, .iload_n 1, 1, [], 0, 0),
  (2, .invokevirtual 109, 3, [], 0, 0),
  (5, .ifCond .eq 13, 3, [(0, 18)], 0, 0),
  (8, .iload_n 2, 1, [], 0, 0),
  (9, .iconst 0, 1, [], 0, 0),
  (10, .bipush 9, 2, [], 9, 0),
  (12, .invokestatic 57, 3, [], 0, 0),
  (15, .ifCond .ne 5, 3, [(0, 20)], 0, 0),
  (18, .iconst (-1), 1, [], (-1), 0),
  (19, .ireturn, 1, [], 0, 0),
  (20, .aload_n 0, 1, [], 0, 0),
  (21, .getfield 16, 3, [], 0, 0),
  (24, .getfield 117, 3, [], 0, 0),
  (27, .iload_n 1, 1, [], 0, 0),
  (28, .iload_n 2, 1, [], 0, 0),
  (29, .invokestatic 160, 3, [], 0, 0),
  (32, .ireturn, 1, [], 0, 0)]
def bt_TX5_odd : List bt_E := [
  (0, .aload_n 0, 1, [], 0, 0),
  (1, .iload_n 1, 1, [], 0, 0),
  (2, .invokevirtual 109, 3, [], 0, 0),
  (5, .ifCond .eq 13, 3, [(0, 18)], 0, 0),
  (8, .iload_n 2, 1, [], 0, 0),
  (9, .iconst 0, 1, [], 0, 0),
  (10, .bipush 10, 2, [], 10, 0),
  (12, .invokestatic 57, 3, [], 0, 0),
  (15, .ifCond .ne 5, 3, [(0, 20)], 0, 0),
  (18, .iconst (-1), 1, [], (-1), 0),
  (19, .ireturn, 1, [], 0, 0),
  (20, .aload_n 0, 1, [], 0, 0),
  (21, .getfield 16, 3, [], 0, 0),
  (24, .getfield 123, 3, [], 0, 0),
  (27, .iload_n 1, 1, [], 0, 0),
  (28, .iload_n 2, 1, [], 0, 0),
  (29, .invokestatic 160, 3, [], 0, 0),
  (32, .ireturn, 1, [], 0, 0)]
def bt_TX5_build : List bt_E := [
  (0, .aload_n 0, 1, [], 0, 0),
  (1, .iload_n 1, 1, [], 0, 0),
  (2, .invokevirtual 109, 3, [], 0, 0),
  (5, .ifCond .ne 5, 3, [(0, 10)], 0, 0),
  (8, .iconst (-1), 1, [], (-1), 0),
  (9, .ireturn, 1, [], 0, 0),
  (10, .iload_n 2, 1, [], 0, 0),
  (11, .tableswitch 130 0 2 #[25, 60, 95], 25, [(0, 141), (0, 36), (1, 71), (2, 106)], 0, 0),
  (36, .aload_n 0, 1, [], 0, 0),
  (37, .getfield 16, 3, [], 0, 0),
  (40, .getfield 133, 3, [], 0, 0),
  (43, .iload_n 1, 1, [], 0, 0),
  (44, .invokestatic 129, 3, [], 0, 0),
  (47, .istore 4, 2, [], 0, 0),
  (49, .aload_n 0, 1, [], 0, 0),
  (50, .getfield 16, 3, [], 0, 0),
  (53, .aload_n 0, 1, [], 0, 0),
  (54, .getfield 16, 3, [], 0, 0),
  (57, .getfield 133, 3, [], 0, 0),
  (60, .iload_n 1, 1, [], 0, 0),
  (61, .iload_n 3, 1, [], 0, 0),
  (62, .invokestatic 164, 3, [], 0, 0),
  (65, .putfield 133, 3, [], 0, 0),
  (68, .iload 4, 2, [], 0, 0),
  (70, .ireturn, 1, [], 0, 0),
  (71, .aload_n 0, 1, [], 0, 0),
  (72, .getfield 16, 3, [], 0, 0),
  (75, .getfield 136, 3, [], 0, 0),
  (78, .iload_n 1, 1, [], 0, 0),
  (79, .invokestatic 129, 3, [], 0, 0),
  (82, .istore 4, 2, [], 0, 0),
  (84, .aload_n 0, 1, [], 0, 0),
  (85, .getfield 16, 3, [], 0, 0),
  (88, .aload_n 0, 1, [], 0, 0),
  (89, .getfield 16, 3, [], 0, 0),
  (92, .getfield 136, 3, [], 0, 0),
  (95, .iload_n 1, 1, [], 0, 0),
  (96, .iload_n 3, 1, [], 0, 0),
  (97, .invokestatic 164, 3, [], 0, 0),
  (100, .putfield 136, 3, [], 0, 0),
  (103, .iload 4, 2, [], 0, 0),
  (105, .ireturn, 1, [], 0, 0),
  (106, .aload_n 0, 1, [], 0, 0),
  (107, .getfield 16, 3, [], 0, 0),
  (110, .getfield 126, 3, [], 0, 0),
  (113, .iload_n 1, 1, [], 0, 0),
  (114, .invokestatic 129, 3, [], 0, 0),
  (117, .istore 4, 2, [], 0, 0),
  (119, .aload_n 0, 1, [], 0, 0),
  (120, .getfield 16, 3, [], 0, 0),
  (123, .aload_n 0, 1, [], 0, 0),
  (124, .getfield 16, 3, [], 0, 0),
  (127, .getfield 126, 3, [], 0, 0),
  (130, .iload_n 1, 1, [], 0, 0),
  (131, .iload_n 3, 1, [], 0, 0),
  (132, .invokestatic 164, 3, [], 0, 0),
  (135, .putfield 126, 3, [], 0, 0),
  (138, .iload 4, 2, [], 0, 0),
  (140, .ireturn, 1, [], 0, 0),
  (141, .iconst (-1), 1, [], (-1), 0),
  (142, .ireturn, 1, [], 0, 0)]
def bt_TX5_polite : List bt_E := [
  (0, .iload_n 1, 1, [], 0, 0),
  (1, .iconst 0, 1, [], 0, 0),
  (2, .bipush 6, 2, [], 6, 0),
  (4, .invokestatic 57, 3, [], 0, 0),
  (7, .ifCond .ne 5, 3, [(0, 12)], 0, 0),
  (10, .iconst (-1), 1, [], (-1), 0),
  (11, .ireturn, 1, [], 0, 0),
  (12, .aload_n 0, 1, [], 0, 0),
  (13, .getfield 16, 3, [], 0, 0),
  (16, .getfield 97, 3, [], 0, 0),
  (19, .istore_n 2, 1, [], 0, 0),
  (20, .aload_n 0, 1, [], 0, 0),
  (21, .getfield 16, 3, [], 0, 0),
  (24, .iload_n 1, 1, [], 0, 0),
  (25, .putfield 97, 3, [], 0, 0),
  (28, .iload_n 2, 1, [], 0, 0),
  (29, .ireturn, 1, [], 0, 0)]
def bt_TX5_teach : List bt_E := [
  (0, .aload_n 0, 1, [], 0, 0),
  (1, .iload_n 1, 1, [], 0, 0),
  (2, .invokevirtual 139, 3, [], 0, 0),
  (5, .ifCond .eq 22, 3, [(0, 27)], 0, 0),
  (8, .iload_n 2, 1, [], 0, 0),
  (9, .iconst 0, 1, [], 0, 0),
  (10, .iconst 4, 1, [], 4, 0),
  (11, .invokestatic 57, 3, [], 0, 0),
  (14, .ifCond .eq 13, 3, [(0, 27)], 0, 0),
  (17, .iload_n 3, 1, [], 0, 0),
  (18, .iconst 1, 1, [], 1, 0),
  (19, .bipush 9, 2, [], 9, 0),
  (21, .invokestatic 57, 3, [], 0, 0),
  (24, .ifCond .ne 5, 3, [(0, 29)], 0, 0),
  (27, .iconst (-1), 1, [], (-1), 0),
  (28, .ireturn, 1, [], 0, 0),
  (29, .aload_n 0, 1, [], 0, 0),
  (30, .getfield 16, 3, [], 0, 0),
  (33, .getfield 145, 3, [], 0, 0),
  (36, .iload_n 1, 1, [], 0, 0),
  (37, .iload_n 3, 1, [], 0, 0),
  (38, .iastore, 1, [], 0, 0),
  (39, .aload_n 0, 1, [], 0, 0),
  (40, .getfield 16, 3, [], 0, 0),
  (43, .getfield 142, 3, [], 0, 0),
  (46, .iload_n 1, 1, [], 0, 0),
  (47, .iload_n 2, 1, [], 0, 0),
  (48, .invokestatic 160, 3, [], 0, 0),
  (51, .ireturn, 1, [], 0, 0)]
def bt_TX5_drive : List bt_E := [
  (0, .iload_n 1, 1, [], 0, 0),
  (1, .iconst 0, 1, [], 0, 0),
  (2, .bipush 9, 2, [], 9, 0),
  (4, .invokestatic 57, 3, [], 0, 0),
  (7, .ifCond .ne 5, 3, [(0, 12)], 0, 0),
  (10, .iconst (-1), 1, [], (-1), 0),
  (11, .ireturn, 1, [], 0, 0),
  (12, .aload_n 0, 1, [], 0, 0),
  (13, .getfield 16, 3, [], 0, 0),
  (16, .invokevirtual 168, 3, [], 0, 0),
  (19, .ifCond .eq 8, 3, [(0, 27)], 0, 0),
  (22, .bipush (-2), 2, [], (-2), 0),
  (24, .goto 11, 3, [(0, 35)], 0, 0),
  (27, .aload_n 0, 1, [], 0, 0),
  (28, .getfield 16, 3, [], 0, 0),
  (31, .iload_n 1, 1, [], 0, 0),
  (32, .invokevirtual 172, 3, [], 0, 0),
  (35, .ireturn, 1, [], 0, 0)]
def bt_TX5_on : List bt_E := [
  (0, .aload_n 0, 1, [], 0, 0),
  (1, .getfield 16, 3, [], 0, 0),
  (4, .invokevirtual 168, 3, [], 0, 0),
  (7, .ifCond .eq 8, 3, [(0, 15)], 0, 0),
  (10, .bipush (-2), 2, [], (-2), 0),
  (12, .goto 25, 3, [(0, 37)], 0, 0),
  (15, .aload_n 0, 1, [], 0, 0),
  (16, .getfield 16, 3, [], 0, 0),
  (19, .aload_n 0, 1, [], 0, 0),
  (20, .getfield 16, 3, [], 0, 0),
  (23, .getfield 120, 3, [], 0, 0),
  (26, .aload_n 0, 1, [], 0, 0),
  (27, .getfield 16, 3, [], 0, 0),
  (30, .getfield 100, 3, [], 0, 0),
  (33, .iaload, 1, [], 0, 0),
  (34, .invokevirtual 172, 3, [], 0, 0),
  (37, .ireturn, 1, [], 0, 0)]
def bt_TX5_ahead : List bt_E := [
  (0, .aload_n 0, 1, [], 0, 0),
  (1, .iload_n 1, 1, [], 0, 0),
  (2, .invokevirtual 139, 3, [], 0, 0),
  (5, .ifCond .eq 12, 3, [(0, 17)], 0, 0),
  (8, .iload_n 2, 1, [], 0, 0),
  (9, .iconst 0, 1, [], 0, 0),
  (10, .iconst 1, 1, [], 1, 0),
  (11, .invokestatic 57, 3, [], 0, 0),
  (14, .ifCond .ne 5, 3, [(0, 19)], 0, 0),
  (17, .iconst (-1), 1, [], (-1), 0),
  (18, .ireturn, 1, [], 0, 0),
  (19, .aload_n 0, 1, [], 0, 0),
  (20, .getfield 20, 3, [], 0, 0),
  (23, .aload_n 0, 1, [], 0, 0),
  (24, .getfield 16, 3, [], 0, 0),
  (27, .invokevirtual 78, 3, [], 0, 0),
  (30, .iload_n 2, 1, [], 0, 0),
  (31, .ifCond .ne 21, 3, [(0, 52)], 0, 0),
  (34, .aload_n 0, 1, [], 0, 0),
  (35, .getfield 20, 3, [], 0, 0),
  (38, .invokevirtual 175, 3, [], 0, 0),
  (41, .pop, 1, [], 0, 0),
  (42, .aload_n 0, 1, [], 0, 0),
  (43, .getfield 20, 3, [], 0, 0),
  (46, .getfield 151, 3, [], 0, 0),
  (49, .iload_n 1, 1, [], 0, 0),
  (50, .iaload, 1, [], 0, 0),
  (51, .ireturn, 1, [], 0, 0),
  (52, .aload_n 0, 1, [], 0, 0),
  (53, .getfield 16, 3, [], 0, 0),
  (56, .getfield 100, 3, [], 0, 0),
  (59, .istore_n 3, 1, [], 0, 0),
  (60, .iload_n 3, 1, [], 0, 0),
  (61, .aload_n 0, 1, [], 0, 0),
  (62, .getfield 16, 3, [], 0, 0),
  (65, .getfield 88, 3, [], 0, 0),
  (68, .if_icmp .ge 35, 3, [(0, 103)], 0, 0),
  (71, .aload_n 0, 1, [], 0, 0),
  (72, .getfield 20, 3, [], 0, 0),
  (75, .aload_n 0, 1, [], 0, 0),
  (76, .getfield 20, 3, [], 0, 0),
  (79, .getfield 120, 3, [], 0, 0),
  (82, .iload_n 3, 1, [], 0, 0),
  (83, .iaload, 1, [], 0, 0),
  (84, .invokevirtual 172, 3, [], 0, 0),
  (87, .iload_n 1, 1, [], 0, 0),
  (88, .invokestatic 129, 3, [], 0, 0),
  (91, .iconst 1, 1, [], 1, 0),
  (92, .if_icmp .ne 5, 3, [(0, 97)], 0, 0),
  (95, .iload_n 3, 1, [], 0, 0),
  (96, .ireturn, 1, [], 0, 0),
  (97, .iinc 3 1, 3, [], 1, 0),
  (100, .goto (-40), 3, [(0, 60)], 0, 0),
  (103, .bipush (-4), 2, [], (-4), 0),
  (105, .ireturn, 1, [], 0, 0)]
def bt_TX5_tail : List bt_E := [
  (0, .iload_n 1, 1, [], 0, 0),
  (1, .iconst 0, 1, [], 0, 0),
  (2, .bipush 8, 2, [], 8, 0),
  (4, .invokestatic 57, 3, [], 0, 0),
  (7, .ifCond .ne 5, 3, [(0, 12)], 0, 0),
  (10, .iconst (-1), 1, [], (-1), 0),
  (11, .ireturn, 1, [], 0, 0),
  (12, .aload_n 0, 1, [], 0, 0),
  (13, .getfield 20, 3, [], 0, 0),
  (16, .aload_n 0, 1, [], 0, 0),
  (17, .getfield 16, 3, [], 0, 0),
  (20, .invokevirtual 78, 3, [], 0, 0),
  (23, .aload_n 0, 1, [], 0, 0),
  (24, .getfield 16, 3, [], 0, 0),
  (27, .getfield 100, 3, [], 0, 0),
  (30, .iload_n 1, 1, [], 0, 0),
  (31, .iadd, 1, [], 0, 0),
  (32, .aload_n 0, 1, [], 0, 0),
  (33, .getfield 16, 3, [], 0, 0),
  (36, .getfield 88, 3, [], 0, 0),
  (39, .invokestatic 179, 3, [], 0, 0),
  (42, .istore_n 2, 1, [], 0, 0),
  (43, .aload_n 0, 1, [], 0, 0),
  (44, .getfield 16, 3, [], 0, 0),
  (47, .getfield 100, 3, [], 0, 0),
  (50, .istore_n 3, 1, [], 0, 0),
  (51, .iload_n 3, 1, [], 0, 0),
  (52, .iload_n 2, 1, [], 0, 0),
  (53, .if_icmp .ge 26, 3, [(0, 79)], 0, 0),
  (56, .aload_n 0, 1, [], 0, 0),
  (57, .getfield 20, 3, [], 0, 0),
  (60, .aload_n 0, 1, [], 0, 0),
  (61, .getfield 20, 3, [], 0, 0),
  (64, .getfield 120, 3, [], 0, 0),
  (67, .iload_n 3, 1, [], 0, 0),
  (68, .iaload, 1, [], 0, 0),
  (69, .invokevirtual 172, 3, [], 0, 0),
  (72, .pop, 1, [], 0, 0),
  (73, .iinc 3 1, 3, [], 1, 0),
  (76, .goto (-25), 3, [(0, 51)], 0, 0),
  (79, .aload_n 0, 1, [], 0, 0),
  (80, .getfield 20, 3, [], 0, 0),
  (83, .aload_n 0, 1, [], 0, 0),
  (84, .getfield 20, 3, [], 0, 0),
  (87, .getfield 106, 3, [], 0, 0),
  (90, .invokevirtual 184, 3, [], 0, 0),
  (93, .ireturn, 1, [], 0, 0)]
def bt_TX5_lost : List bt_E := [
  (0, .aload_n 0, 1, [], 0, 0),
  (1, .getfield 20, 3, [], 0, 0),
  (4, .aload_n 0, 1, [], 0, 0),
  (5, .getfield 16, 3, [], 0, 0),
  (8, .invokevirtual 78, 3, [], 0, 0),
  (11, .aload_n 0, 1, [], 0, 0),
  (12, .getfield 20, 3, [], 0, 0),
  (15, .aload_n 0, 1, [], 0, 0),
  (16, .getfield 20, 3, [], 0, 0),
  (19, .invokevirtual 187, 3, [], 0, 0),
  (22, .putfield 106, 3, [], 0, 0),
  (25, .aload_n 0, 1, [], 0, 0),
  (26, .getfield 20, 3, [], 0, 0),
  (29, .invokevirtual 175, 3, [], 0, 0),
  (32, .istore_n 1, 1, [], 0, 0),
  (33, .aload_n 0, 1, [], 0, 0),
  (34, .getfield 20, 3, [], 0, 0),
  (37, .aload_n 0, 1, [], 0, 0),
  (38, .getfield 16, 3, [], 0, 0),
  (41, .invokevirtual 78, 3, [], 0, 0),
  (44, .aload_n 0, 1, [], 0, 0),
  (45, .getfield 20, 3, [], 0, 0),
  (48, .invokevirtual 175, 3, [], 0, 0),
  (51, .iload_n 1, 1, [], 0, 0),
  (52, .isub, 1, [], 0, 0),
  (53, .ireturn, 1, [], 0, 0)]
def bt_TX5_past : List bt_E := [
  (0, .aload_n 0, 1, [], 0, 0),
  (1, .iload_n 1, 1, [], 0, 0),
  (2, .invokevirtual 139, 3, [], 0, 0),
  (5, .ifCond .eq 12, 3, [(0, 17)], 0, 0),
  (8, .iload_n 2, 1, [], 0, 0),
  (9, .iconst 0, 1, [], 0, 0),
  (10, .iconst 1, 1, [], 1, 0),
  (11, .invokestatic 57, 3, [], 0, 0),
  (14, .ifCond .ne 7, 3, [(0, 21)], 0, 0),
  (17, .ldc2_w 190, 3, [], 0, (-1)),
  (20, .lreturn, 1, [], 0, 0),
  (21, .aload_n 0, 1, [], 0, 0),
  (22, .getfield 53, 3, [], 0, 0),
  (25, .aload_n 0, 1, [], 0, 0),
  (26, .getfield 16, 3, [], 0, 0),
  (29, .aload_n 0, 1, [], 0, 0),
  (30, .getfield 16, 3, [], 0, 0),
  (33, .getfield 88, 3, [], 0, 0),
  (36, .invokevirtual 192, 3, [], 0, 0),
  (39, .aload_n 0, 1, [], 0, 0),
  (40, .getfield 53, 3, [], 0, 0),
  (43, .iload_n 1, 1, [], 0, 0),
  (44, .invokevirtual 196, 3, [], 0, 0),
  (47, .aload_n 0, 1, [], 0, 0),
  (48, .getfield 53, 3, [], 0, 0),
  (51, .getfield 200, 3, [], 0, 0),
  (54, .iload_n 2, 1, [], 0, 0),
  (55, .invokestatic 204, 3, [], 0, 0),
  (58, .lreturn, 1, [], 0, 0)]
def bt_TX5_mean : List bt_E := [
  (0, .aload_n 0, 1, [], 0, 0),
  (1, .iload_n 1, 1, [], 0, 0),
  (2, .invokevirtual 139, 3, [], 0, 0),
  (5, .ifCond .eq 12, 3, [(0, 17)], 0, 0),
  (8, .iload_n 2, 1, [], 0, 0),
  (9, .iconst 0, 1, [], 0, 0),
  (10, .iconst 1, 1, [], 1, 0),
  (11, .invokestatic 57, 3, [], 0, 0),
  (14, .ifCond .ne 7, 3, [(0, 21)], 0, 0),
  (17, .ldc2_w 190, 3, [], 0, (-1)),
  (20, .lreturn, 1, [], 0, 0),
  (21, .aload_n 0, 1, [], 0, 0),
  (22, .getfield 53, 3, [], 0, 0),
  (25, .aload_n 0, 1, [], 0, 0),
  (26, .getfield 16, 3, [], 0, 0),
  (29, .iload_n 1, 1, [], 0, 0),
  (30, .invokevirtual 208, 3, [], 0, 0),
  (33, .lstore_n 3, 1, [], 0, 0),
  (34, .lload_n 3, 1, [], 0, 0),
  (35, .aload_n 0, 1, [], 0, 0),
  (36, .getfield 53, 3, [], 0, 0),
  (39, .getfield 200, 3, [], 0, 0),
  (42, .iload_n 2, 1, [], 0, 0),
  (43, .invokestatic 204, 3, [], 0, 0),
  (46, .lreturn, 1, [], 0, 0)]
def bt_TX5_row : List bt_E := [
  (0, .iload_n 1, 1, [], 0, 0),
  (1, .iconst 0, 1, [], 0, 0),
  (2, .iconst 1, 1, [], 1, 0),
  (3, .invokestatic 57, 3, [], 0, 0),
  (6, .ifCond .ne 7, 3, [(0, 13)], 0, 0),
  (9, .ldc2_w 190, 3, [], 0, (-1)),
  (12, .lreturn, 1, [], 0, 0),
  (13, .aload_n 0, 1, [], 0, 0),
  (14, .getfield 53, 3, [], 0, 0),
  (17, .aload_n 0, 1, [], 0, 0),
  (18, .getfield 16, 3, [], 0, 0),
  (21, .aload_n 0, 1, [], 0, 0),
  (22, .getfield 16, 3, [], 0, 0),
  (25, .getfield 88, 3, [], 0, 0),
  (28, .invokevirtual 192, 3, [], 0, 0),
  (31, .lconst 0, 1, [], 0, 0),
  (32, .lstore_n 2, 1, [], 0, 0),
  (33, .iconst 0, 1, [], 0, 0),
  (34, .istore 4, 2, [], 0, 0),
  (36, .iload 4, 2, [], 0, 0),
  (38, .aload_n 0, 1, [], 0, 0),
  (39, .getfield 16, 3, [], 0, 0),
  (42, .getfield 91, 3, [], 0, 0),
  (45, .if_icmp .ge 29, 3, [(0, 74)], 0, 0),
  (48, .lload_n 2, 1, [], 0, 0),
  (49, .aload_n 0, 1, [], 0, 0),
  (50, .getfield 53, 3, [], 0, 0),
  (53, .getfield 200, 3, [], 0, 0),
  (56, .aload_n 0, 1, [], 0, 0),
  (57, .getfield 53, 3, [], 0, 0),
  (60, .iload 4, 2, [], 0, 0),
  (62, .invokevirtual 196, 3, [], 0, 0),
  (65, .lsub, 1, [], 0, 0),
  (66, .ladd, 1, [], 0, 0),
  (67, .lstore_n 2, 1, [], 0, 0),
  (68, .iinc 4 1, 3, [], 1, 0),
  (71, .goto (-35), 3, [(0, 36)], 0, 0),
  (74, .lload_n 2, 1, [], 0, 0),
  (75, .aload_n 0, 1, [], 0, 0),
  (76, .getfield 53, 3, [], 0, 0),
  (79, .getfield 200, 3, [], 0, 0),
  (82, .iload_n 1, 1, [], 0, 0),
  (83, .invokestatic 204, 3, [], 0, 0),
  (86, .lreturn, 1, [], 0, 0)]
def bt_TX5_where : List bt_E := [
  (0, .aload_n 0, 1, [], 0, 0),
  (1, .iload_n 1, 1, [], 0, 0),
  (2, .invokevirtual 139, 3, [], 0, 0),
  (5, .ifCond .eq 31, 3, [(0, 36)], 0, 0),
  (8, .aload_n 0, 1, [], 0, 0),
  (9, .iload_n 2, 1, [], 0, 0),
  (10, .invokevirtual 109, 3, [], 0, 0),
  (13, .ifCond .eq 23, 3, [(0, 36)], 0, 0),
  (16, .iload_n 2, 1, [], 0, 0),
  (17, .aload_n 0, 1, [], 0, 0),
  (18, .getfield 16, 3, [], 0, 0),
  (21, .getfield 100, 3, [], 0, 0),
  (24, .if_icmp .lt 12, 3, [(0, 36)], 0, 0),
  (27, .iload_n 3, 1, [], 0, 0),
  (28, .iconst 0, 1, [], 0, 0),
  (29, .iconst 1, 1, [], 1, 0),
  (30, .invokestatic 57, 3, [], 0, 0),
  (33, .ifCond .ne 7, 3, [(0, 40)], 0, 0),
  (36, .ldc2_w 190, 3, [], 0, (-1)),
  (39, .lreturn, 1, [], 0, 0),
  (40, .aload_n 0, 1, [], 0, 0),
  (41, .getfield 53, 3, [], 0, 0),
  (44, .aload_n 0, 1, [], 0, 0),
  (45, .getfield 16, 3, [], 0, 0),
  (48, .iload_n 2, 1, [], 0, 0),
  (49, .invokevirtual 192, 3, [], 0, 0),
  (52, .aload_n 0, 1, [], 0, 0),
  (53, .getfield 53, 3, [], 0, 0),
  (56, .iload_n 1, 1, [], 0, 0),
  (57, .invokevirtual 196, 3, [], 0, 0),
  (60, .lstore 4, 2, [], 0, 0),
  (62, .aload_n 0, 1, [], 0, 0),
  (63, .getfield 53, 3, [], 0, 0),
  (66, .aload_n 0, 1, [], 0, 0),
  (67, .getfield 16, 3, [], 0, 0),
  (70, .iload_n 2, 1, [], 0, 0),
  (71, .invokevirtual 212, 3, [], 0, 0),
  (74, .aload_n 0, 1, [], 0, 0),
  (75, .getfield 53, 3, [], 0, 0),
  (78, .iload_n 1, 1, [], 0, 0),
  (79, .invokevirtual 196, 3, [], 0, 0),
  (82, .ldc2_w 215, 3, [], 0, 10),
  (85, .lload 4, 2, [], 0, 0),
  (87, .lmul, 1, [], 0, 0),
  (88, .lsub, 1, [], 0, 0),
  (89, .aload_n 0, 1, [], 0, 0),
  (90, .getfield 53, 3, [], 0, 0),
  (93, .getfield 200, 3, [], 0, 0),
  (96, .iload_n 3, 1, [], 0, 0),
  (97, .invokestatic 204, 3, [], 0, 0),
  (100, .lreturn, 1, [], 0, 0)]
def bt_TX5_cost : List bt_E := [
  (0, .aload_n 0, 1, [], 0, 0),
  (1, .iload_n 1, 1, [], 0, 0),
  (2, .invokevirtual 139, 3, [], 0, 0),
  (5, .ifCond .ne 5, 3, [(0, 10)], 0, 0),
  (8, .iconst (-1), 1, [], (-1), 0),
  (9, .ireturn, 1, [], 0, 0),
  (10, .aload_n 0, 1, [], 0, 0),
  (11, .getfield 20, 3, [], 0, 0),
  (14, .aload_n 0, 1, [], 0, 0),
  (15, .getfield 16, 3, [], 0, 0),
  (18, .invokevirtual 78, 3, [], 0, 0),
  (21, .aload_n 0, 1, [], 0, 0),
  (22, .getfield 20, 3, [], 0, 0),
  (25, .invokevirtual 175, 3, [], 0, 0),
  (28, .aload_n 0, 1, [], 0, 0),
  (29, .getfield 20, 3, [], 0, 0),
  (32, .getfield 151, 3, [], 0, 0),
  (35, .iload_n 1, 1, [], 0, 0),
  (36, .iaload, 1, [], 0, 0),
  (37, .isub, 1, [], 0, 0),
  (38, .istore_n 2, 1, [], 0, 0),
  (39, .aload_n 0, 1, [], 0, 0),
  (40, .getfield 20, 3, [], 0, 0),
  (43, .aload_n 0, 1, [], 0, 0),
  (44, .getfield 16, 3, [], 0, 0),
  (47, .invokevirtual 78, 3, [], 0, 0),
  (50, .aload_n 0, 1, [], 0, 0),
  (51, .getfield 20, 3, [], 0, 0),
  (54, .getfield 142, 3, [], 0, 0),
  (57, .iload_n 1, 1, [], 0, 0),
  (58, .iconst 2, 1, [], 2, 0),
  (59, .iastore, 1, [], 0, 0),
  (60, .aload_n 0, 1, [], 0, 0),
  (61, .getfield 20, 3, [], 0, 0),
  (64, .getfield 145, 3, [], 0, 0),
  (67, .iload_n 1, 1, [], 0, 0),
  (68, .iconst 1, 1, [], 1, 0),
  (69, .iastore, 1, [], 0, 0),
  (70, .aload_n 0, 1, [], 0, 0),
  (71, .getfield 20, 3, [], 0, 0),
  (74, .invokevirtual 175, 3, [], 0, 0),
  (77, .aload_n 0, 1, [], 0, 0),
  (78, .getfield 20, 3, [], 0, 0),
  (81, .getfield 151, 3, [], 0, 0),
  (84, .iload_n 1, 1, [], 0, 0),
  (85, .iaload, 1, [], 0, 0),
  (86, .isub, 1, [], 0, 0),
  (87, .istore_n 3, 1, [], 0, 0),
  (88, .sipush 10000, 3, [], 10000, 0),
  (91, .iload_n 2, 1, [], 0, 0),
  (92, .iadd, 1, [], 0, 0),
  (93, .iload_n 3, 1, [], 0, 0),
  (94, .isub, 1, [], 0, 0),
  (95, .ireturn, 1, [], 0, 0)]
def bt_TX5_third : List bt_E := [
  (0, .iload_n 1, 1, [], 0, 0),
  (1, .iconst 0, 1, [], 0, 0),
  (2, .iconst 1, 1, [], 1, 0),
  (3, .invokestatic 57, 3, [], 0, 0),
  (6, .ifCond .eq 12, 3, [(0, 18)], 0, 0),
  (9, .aload_n 0, 1, [], 0, 0),
  (10, .iconst 1, 1, [], 1, 0),
  (11, .iload_n 1, 1, [], 0, 0),
  (12, .invokevirtual 217, 3, [], 0, 0),
  (15, .goto 4, 3, [(0, 19)], 0, 0),
  (18, .iconst (-1), 1, [], (-1), 0),
  (19, .ireturn, 1, [], 0, 0)]
def bt_TX5_layby : List bt_E := [
  (0, .iload_n 1, 1, [], 0, 0),
  (1, .iconst 0, 1, [], 0, 0),
  (2, .iconst 1, 1, [], 1, 0),
  (3, .invokestatic 57, 3, [], 0, 0),
  (6, .ifCond .eq 12, 3, [(0, 18)], 0, 0),
  (9, .aload_n 0, 1, [], 0, 0),
  (10, .iconst 0, 1, [], 0, 0),
  (11, .iload_n 1, 1, [], 0, 0),
  (12, .invokevirtual 217, 3, [], 0, 0),
  (15, .goto 4, 3, [(0, 19)], 0, 0),
  (18, .iconst (-1), 1, [], (-1), 0),
  (19, .ireturn, 1, [], 0, 0)]
def bt_TX5_fair : List bt_E := [
  (0, .iload_n 1, 1, [], 0, 0),
  (1, .iconst 0, 1, [], 0, 0),
  (2, .iconst 1, 1, [], 1, 0),
  (3, .invokestatic 57, 3, [], 0, 0),
  (6, .ifCond .ne 5, 3, [(0, 11)], 0, 0),
  (9, .iconst (-1), 1, [], (-1), 0),
  (10, .ireturn, 1, [], 0, 0),
  (11, .iconst 0, 1, [], 0, 0),
  (12, .istore_n 2, 1, [], 0, 0),
  (13, .iconst 0, 1, [], 0, 0),
  (14, .istore_n 3, 1, [], 0, 0),
  (15, .iconst 0, 1, [], 0, 0),
  (16, .istore 4, 2, [], 0, 0),
  (18, .iload 4, 2, [], 0, 0),
  (20, .bipush 6, 2, [], 6, 0),
  (22, .if_icmp .gt 55, 3, [(0, 77)], 0, 0),
  (25, .aload_n 0, 1, [], 0, 0),
  (26, .getfield 20, 3, [], 0, 0),
  (29, .aload_n 0, 1, [], 0, 0),
  (30, .getfield 16, 3, [], 0, 0),
  (33, .invokevirtual 78, 3, [], 0, 0),
  (36, .aload_n 0, 1, [], 0, 0),
  (37, .getfield 20, 3, [], 0, 0),
  (40, .iload 4, 2, [], 0, 0),
  (42, .putfield 97, 3, [], 0, 0),
  (45, .aload_n 0, 1, [], 0, 0),
  (46, .getfield 20, 3, [], 0, 0),
  (49, .invokevirtual 175, 3, [], 0, 0),
  (52, .istore 5, 2, [], 0, 0),
  (54, .iload 4, 2, [], 0, 0),
  (56, .ifCond .eq 9, 3, [(0, 65)], 0, 0),
  (59, .iload 5, 2, [], 0, 0),
  (61, .iload_n 3, 1, [], 0, 0),
  (62, .if_icmp .ge 9, 3, [(0, 71)], 0, 0),
  (65, .iload 4, 2, [], 0, 0),
  (67, .istore_n 2, 1, [], 0, 0),
  (68, .iload 5, 2, [], 0, 0),
  (70, .istore_n 3, 1, [], 0, 0),
  (71, .iinc 4 1, 3, [], 1, 0),
  (74, .goto (-56), 3, [(0, 18)], 0, 0),
  (77, .iload_n 1, 1, [], 0, 0),
  (78, .ifCond .ne 7, 3, [(0, 85)], 0, 0),
  (81, .iload_n 2, 1, [], 0, 0),
  (82, .goto 4, 3, [(0, 86)], 0, 0),
  (85, .iload_n 3, 1, [], 0, 0),
  (86, .ireturn, 1, [], 0, 0)]
def bt_TX5_need : List bt_E := [
  (0, .aload_n 0, 1, [], 0, 0),
  (1, .iload_n 1, 1, [], 0, 0),
  (2, .invokevirtual 139, 3, [], 0, 0),
  (5, .ifCond .ne 5, 3, [(0, 10)], 0, 0),
  (8, .iconst (-1), 1, [], (-1), 0),
  (9, .ireturn, 1, [], 0, 0),
  (10, .aload_n 0, 1, [], 0, 0),
  (11, .getfield 16, 3, [], 0, 0),
  (14, .getfield 106, 3, [], 0, 0),
  (17, .iload_n 1, 1, [], 0, 0),
  (18, .invokestatic 129, 3, [], 0, 0),
  (21, .iconst 1, 1, [], 1, 0),
  (22, .if_icmp .ne 6, 3, [(0, 28)], 0, 0),
  (25, .bipush (-2), 2, [], (-2), 0),
  (27, .ireturn, 1, [], 0, 0),
  (28, .iconst 1, 1, [], 1, 0),
  (29, .istore_n 2, 1, [], 0, 0),
  (30, .iload_n 2, 1, [], 0, 0),
  (31, .bipush 9, 2, [], 9, 0),
  (33, .if_icmp .gt 54, 3, [(0, 87)], 0, 0),
  (36, .aload_n 0, 1, [], 0, 0),
  (37, .getfield 20, 3, [], 0, 0),
  (40, .aload_n 0, 1, [], 0, 0),
  (41, .getfield 16, 3, [], 0, 0),
  (44, .invokevirtual 78, 3, [], 0, 0),
  (47, .aload_n 0, 1, [], 0, 0),
  (48, .getfield 20, 3, [], 0, 0),
  (51, .getfield 145, 3, [], 0, 0),
  (54, .iload_n 1, 1, [], 0, 0),
  (55, .iload_n 2, 1, [], 0, 0),
  (56, .iastore, 1, [], 0, 0),
  (57, .aload_n 0, 1, [], 0, 0),
  (58, .getfield 20, 3, [], 0, 0),
  (61, .invokevirtual 175, 3, [], 0, 0),
  (64, .pop, 1, [], 0, 0),
  (65, .aload_n 0, 1, [], 0, 0),
  (66, .getfield 20, 3, [], 0, 0),
  (69, .getfield 106, 3, [], 0, 0),
  (72, .iload_n 1, 1, [], 0, 0),
  (73, .invokestatic 129, 3, [], 0, 0),
  (76, .ifCond .ne 5, 3, [(0, 81)], 0, 0),
  (79, .iload_n 2, 1, [], 0, 0),
  (80, .ireturn, 1, [], 0, 0),
  (81, .iinc 2 1, 3, [], 1, 0),
  (84, .goto (-54), 3, [(0, 30)], 0, 0),
  (87, .bipush (-4), 2, [], (-4), 0),
  (89, .ireturn, 1, [], 0, 0)]
def bt_TX5_dare : List bt_E := [
  (0, .iload_n 1, 1, [], 0, 0),
  (1, .iconst 0, 1, [], 0, 0),
  (2, .bipush 99, 2, [], 99, 0),
  (4, .invokestatic 57, 3, [], 0, 0),
  (7, .ifCond .eq 12, 3, [(0, 19)], 0, 0),
  (10, .iload_n 2, 1, [], 0, 0),
  (11, .iconst 0, 1, [], 0, 0),
  (12, .iconst 2, 1, [], 2, 0),
  (13, .invokestatic 57, 3, [], 0, 0),
  (16, .ifCond .ne 7, 3, [(0, 23)], 0, 0),
  (19, .ldc2_w 190, 3, [], 0, (-1)),
  (22, .lreturn, 1, [], 0, 0),
  (23, .aload_n 0, 1, [], 0, 0),
  (24, .getfield 16, 3, [], 0, 0),
  (27, .invokevirtual 221, 3, [], 0, 0),
  (30, .istore_n 3, 1, [], 0, 0),
  (31, .iload_n 3, 1, [], 0, 0),
  (32, .ifCond .ge 7, 3, [(0, 39)], 0, 0),
  (35, .ldc2_w 224, 3, [], 0, (-2)),
  (38, .lreturn, 1, [], 0, 0),
  (39, .aload_n 0, 1, [], 0, 0),
  (40, .getfield 53, 3, [], 0, 0),
  (43, .aload_n 0, 1, [], 0, 0),
  (44, .getfield 16, 3, [], 0, 0),
  (47, .iload_n 3, 1, [], 0, 0),
  (48, .iload_n 1, 1, [], 0, 0),
  (49, .invokevirtual 226, 3, [], 0, 0),
  (52, .lstore 4, 2, [], 0, 0),
  (54, .iload_n 2, 1, [], 0, 0),
  (55, .iconst 2, 1, [], 2, 0),
  (56, .if_icmp .ne 14, 3, [(0, 70)], 0, 0),
  (59, .aload_n 0, 1, [], 0, 0),
  (60, .getfield 53, 3, [], 0, 0),
  (63, .getfield 230, 3, [], 0, 0),
  (66, .i2l, 1, [], 0, 0),
  (67, .goto 16, 3, [(0, 83)], 0, 0),
  (70, .lload 4, 2, [], 0, 0),
  (72, .aload_n 0, 1, [], 0, 0),
  (73, .getfield 53, 3, [], 0, 0),
  (76, .getfield 200, 3, [], 0, 0),
  (79, .iload_n 2, 1, [], 0, 0),
  (80, .invokestatic 204, 3, [], 0, 0),
  (83, .lreturn, 1, [], 0, 0)]
def bt_TX5_see : List bt_E := [
  (0, .aload_n 0, 1, [], 0, 0),
  (1, .iload_n 1, 1, [], 0, 0),
  (2, .invokevirtual 139, 3, [], 0, 0),
  (5, .ifCond .eq 14, 3, [(0, 19)], 0, 0),
  (8, .iload_n 2, 1, [], 0, 0),
  (9, .iconst 0, 1, [], 0, 0),
  (10, .sipush 999, 3, [], 999, 0),
  (13, .invokestatic 57, 3, [], 0, 0),
  (16, .ifCond .ne 5, 3, [(0, 21)], 0, 0),
  (19, .iconst (-1), 1, [], (-1), 0),
  (20, .ireturn, 1, [], 0, 0),
  (21, .aload_n 0, 1, [], 0, 0),
  (22, .getfield 46, 3, [], 0, 0),
  (25, .iload_n 1, 1, [], 0, 0),
  (26, .iload_n 2, 1, [], 0, 0),
  (27, .invokevirtual 233, 3, [], 0, 0),
  (30, .ifCond .eq 13, 3, [(0, 43)], 0, 0),
  (33, .aload_n 0, 1, [], 0, 0),
  (34, .getfield 46, 3, [], 0, 0),
  (37, .getfield 82, 3, [], 0, 0),
  (40, .goto 5, 3, [(0, 45)], 0, 0),
  (43, .bipush (-3), 2, [], (-3), 0),
  (45, .ireturn, 1, [], 0, 0)]
def bt_TX5_forget : List bt_E := [
  (0, .iload_n 1, 1, [], 0, 0),
  (1, .iconst 0, 1, [], 0, 0),
  (2, .aload_n 0, 1, [], 0, 0),
  (3, .getfield 46, 3, [], 0, 0),
  (6, .getfield 82, 3, [], 0, 0),
  (9, .invokestatic 57, 3, [], 0, 0),
  (12, .ifCond .ne 5, 3, [(0, 17)], 0, 0),
  (15, .iconst (-1), 1, [], (-1), 0),
  (16, .ireturn, 1, [], 0, 0),
  (17, .aload_n 0, 1, [], 0, 0),
  (18, .getfield 46, 3, [], 0, 0),
  (21, .getfield 82, 3, [], 0, 0),
  (24, .istore_n 2, 1, [], 0, 0),
  (25, .aload_n 0, 1, [], 0, 0),
  (26, .getfield 46, 3, [], 0, 0),
  (29, .iload_n 1, 1, [], 0, 0),
  (30, .putfield 82, 3, [], 0, 0),
  (33, .iload_n 2, 1, [], 0, 0),
  (34, .ireturn, 1, [], 0, 0)]
def bt_TX5_fits : List bt_E := [
  (0, .iload_n 1, 1, [], 0, 0),
  (1, .iconst 0, 1, [], 0, 0),
  (2, .iconst 3, 1, [], 3, 0),
  (3, .invokestatic 57, 3, [], 0, 0),
  (6, .ifCond .ne 5, 3, [(0, 11)], 0, 0),
  (9, .iconst (-1), 1, [], (-1), 0),
  (10, .ireturn, 1, [], 0, 0),
  (11, .aload_n 0, 1, [], 0, 0),
  (12, .getfield 46, 3, [], 0, 0),
  (15, .aload_n 0, 1, [], 0, 0),
  (16, .getfield 16, 3, [], 0, 0),
  (19, .invokevirtual 237, 3, [], 0, 0),
  (22, .iload_n 1, 1, [], 0, 0),
  (23, .ifCond .ne 11, 3, [(0, 34)], 0, 0),
  (26, .aload_n 0, 1, [], 0, 0),
  (27, .getfield 46, 3, [], 0, 0),
  (30, .getfield 240, 3, [], 0, 0),
  (33, .ireturn, 1, [], 0, 0),
  (34, .aload_n 0, 1, [], 0, 0),
  (35, .getfield 46, 3, [], 0, 0),
  (38, .getfield 240, 3, [], 0, 0),
  (41, .ifCond .ne 6, 3, [(0, 47)], 0, 0),
  (44, .bipush (-4), 2, [], (-4), 0),
  (46, .ireturn, 1, [], 0, 0),
  (47, .iload_n 1, 1, [], 0, 0),
  (48, .iconst 1, 1, [], 1, 0),
  (49, .if_icmp .ne 11, 3, [(0, 60)], 0, 0),
  (52, .aload_n 0, 1, [], 0, 0),
  (53, .getfield 46, 3, [], 0, 0),
  (56, .getfield 243, 3, [], 0, 0),
  (59, .ireturn, 1, [], 0, 0),
  (60, .iload_n 1, 1, [], 0, 0),
  (61, .iconst 2, 1, [], 2, 0),
  (62, .if_icmp .ne 13, 3, [(0, 75)], 0, 0),
  (65, .aload_n 0, 1, [], 0, 0),
  (66, .getfield 46, 3, [], 0, 0),
  (69, .getfield 246, 3, [], 0, 0),
  (72, .goto 20, 3, [(0, 92)], 0, 0),
  (75, .aload_n 0, 1, [], 0, 0),
  (76, .getfield 16, 3, [], 0, 0),
  (79, .invokevirtual 249, 3, [], 0, 0),
  (82, .aload_n 0, 1, [], 0, 0),
  (83, .getfield 46, 3, [], 0, 0),
  (86, .getfield 252, 3, [], 0, 0),
  (89, .iconst (-1), 1, [], (-1), 0),
  (90, .ixor, 1, [], 0, 0),
  (91, .iand, 1, [], 0, 0),
  (92, .ireturn, 1, [], 0, 0)]
def bt_TX5_could : List bt_E := [
  (0, .aload_n 0, 1, [], 0, 0),
  (1, .getfield 46, 3, [], 0, 0),
  (4, .aload_n 0, 1, [], 0, 0),
  (5, .getfield 16, 3, [], 0, 0),
  (8, .invokevirtual 237, 3, [], 0, 0),
  (11, .aload_n 0, 1, [], 0, 0),
  (12, .getfield 46, 3, [], 0, 0),
  (15, .getfield 255, 3, [], 0, 0),
  (18, .ireturn, 1, [], 0, 0)]
def bt_TX5_drift : List bt_E := [
  (0, .iload_n 2, 1, [], 0, 0),
  (1, .iconst 0, 1, [], 0, 0),
  (2, .iconst 1, 1, [], 1, 0),
  (3, .invokestatic 57, 3, [], 0, 0),
  (6, .ifCond .ne 5, 3, [(0, 11)], 0, 0),
  (9, .iconst (-1), 1, [], (-1), 0),
  (10, .ireturn, 1, [], 0, 0),
  (11, .aload_n 0, 1, [], 0, 0),
  (12, .getfield 20, 3, [], 0, 0),
  (15, .aload_n 0, 1, [], 0, 0),
  (16, .getfield 16, 3, [], 0, 0),
  (19, .invokevirtual 78, 3, [], 0, 0),
  (22, .iload_n 1, 1, [], 0, 0),
  (23, .istore_n 3, 1, [], 0, 0),
  (24, .aload_n 0, 1, [], 0, 0),
  (25, .getfield 16, 3, [], 0, 0),
  (28, .getfield 100, 3, [], 0, 0),
  (31, .istore 4, 2, [], 0, 0),
  (33, .iload 4, 2, [], 0, 0),
  (35, .aload_n 0, 1, [], 0, 0),
  (36, .getfield 16, 3, [], 0, 0),
  (39, .getfield 88, 3, [], 0, 0),
  (42, .if_icmp .ge 38, 3, [(0, 80)], 0, 0),
  (45, .iload_n 3, 1, [], 0, 0),
  (46, .ldc_w 258, 3, [], 1103515245, 0),
  (49, .imul, 1, [], 0, 0),
  (50, .sipush 12345, 3, [], 12345, 0),
  (53, .iadd, 1, [], 0, 0),
  (54, .istore_n 3, 1, [], 0, 0),
  (55, .aload_n 0, 1, [], 0, 0),
  (56, .getfield 20, 3, [], 0, 0),
  (59, .iload_n 3, 1, [], 0, 0),
  (60, .bipush 16, 2, [], 16, 0),
  (62, .iushr, 1, [], 0, 0),
  (63, .sipush 32767, 3, [], 32767, 0),
  (66, .iand, 1, [], 0, 0),
  (67, .bipush 10, 2, [], 10, 0),
  (69, .irem, 1, [], 0, 0),
  (70, .invokevirtual 172, 3, [], 0, 0),
  (73, .pop, 1, [], 0, 0),
  (74, .iinc 4 1, 3, [], 1, 0),
  (77, .goto (-44), 3, [(0, 33)], 0, 0),
  (80, .iload_n 2, 1, [], 0, 0),
  (81, .ifCond .ne 13, 3, [(0, 94)], 0, 0),
  (84, .aload_n 0, 1, [], 0, 0),
  (85, .getfield 20, 3, [], 0, 0),
  (88, .invokevirtual 259, 3, [], 0, 0),
  (91, .goto 10, 3, [(0, 101)], 0, 0),
  (94, .aload_n 0, 1, [], 0, 0),
  (95, .getfield 20, 3, [], 0, 0),
  (98, .getfield 106, 3, [], 0, 0),
  (101, .ireturn, 1, [], 0, 0)]
def bt_TX5_keep : List bt_E := [
  (0, .iload_n 1, 1, [], 0, 0),
  (1, .iconst 0, 1, [], 0, 0),
  (2, .iconst 1, 1, [], 1, 0),
  (3, .invokestatic 57, 3, [], 0, 0),
  (6, .ifCond .ne 5, 3, [(0, 11)], 0, 0),
  (9, .iconst (-1), 1, [], (-1), 0),
  (10, .ireturn, 1, [], 0, 0),
  (11, .aload_n 0, 1, [], 0, 0),
  (12, .getfield 85, 3, [], 0, 0),
  (15, .iload_n 1, 1, [], 0, 0),
  (16, .invokestatic 129, 3, [], 0, 0),
  (19, .istore_n 2, 1, [], 0, 0),
  (20, .aload_n 0, 1, [], 0, 0),
  (21, .getfield 32, 3, [], 0, 0),
  (24, .iload_n 1, 1, [], 0, 0),
  (25, .aaload, 1, [], 0, 0),
  (26, .aload_n 0, 1, [], 0, 0),
  (27, .getfield 16, 3, [], 0, 0),
  (30, .invokevirtual 78, 3, [], 0, 0),
  (33, .aload_n 0, 1, [], 0, 0),
  (34, .aload_n 0, 1, [], 0, 0),
  (35, .getfield 85, 3, [], 0, 0),
  (38, .iload_n 1, 1, [], 0, 0),
  (39, .iconst 1, 1, [], 1, 0),
  (40, .invokestatic 164, 3, [], 0, 0),
  (43, .putfield 85, 3, [], 0, 0),
  (46, .iload_n 2, 1, [], 0, 0),
  (47, .ireturn, 1, [], 0, 0)]
def bt_TX5_back : List bt_E := [
  (0, .iload_n 1, 1, [], 0, 0),
  (1, .iconst 0, 1, [], 0, 0),
  (2, .iconst 1, 1, [], 1, 0),
  (3, .invokestatic 57, 3, [], 0, 0),
  (6, .ifCond .ne 5, 3, [(0, 11)], 0, 0),
  (9, .iconst (-1), 1, [], (-1), 0),
  (10, .ireturn, 1, [], 0, 0),
  (11, .aload_n 0, 1, [], 0, 0),
  (12, .getfield 85, 3, [], 0, 0),
  (15, .iload_n 1, 1, [], 0, 0),
  (16, .invokestatic 129, 3, [], 0, 0),
  (19, .ifCond .ne 6, 3, [(0, 25)], 0, 0),
  (22, .bipush (-2), 2, [], (-2), 0),
  (24, .ireturn, 1, [], 0, 0),
  (25, .aload_n 0, 1, [], 0, 0),
  (26, .getfield 16, 3, [], 0, 0),
  (29, .aload_n 0, 1, [], 0, 0),
  (30, .getfield 32, 3, [], 0, 0),
  (33, .iload_n 1, 1, [], 0, 0),
  (34, .aaload, 1, [], 0, 0),
  (35, .invokevirtual 78, 3, [], 0, 0),
  (38, .aload_n 0, 1, [], 0, 0),
  (39, .getfield 16, 3, [], 0, 0),
  (42, .getfield 100, 3, [], 0, 0),
  (45, .ireturn, 1, [], 0, 0)]
def bt_TX5_sheet : List bt_E := [
  (0, .iload_n 1, 1, [], 0, 0),
  (1, .invokestatic 262, 3, [], 0, 0),
  (4, .ifCond .eq 16, 3, [(0, 20)], 0, 0),
  (7, .iload_n 2, 1, [], 0, 0),
  (8, .invokestatic 265, 3, [], 0, 0),
  (11, .ifCond .eq 9, 3, [(0, 20)], 0, 0),
  (14, .iload_n 3, 1, [], 0, 0),
  (15, .bipush 40, 2, [], 40, 0),
  (17, .if_icmp .le 5, 3, [(0, 22)], 0, 0),
  (20, .iconst (-1), 1, [], (-1), 0),
  (21, .ireturn, 1, [], 0, 0),
  (22, .iload_n 3, 1, [], 0, 0),
  (23, .ifCond .ge 6, 3, [(0, 29)], 0, 0),
  (26, .bipush (-14), 2, [], (-14), 0),
  (28, .ireturn, 1, [], 0, 0),
  (29, .aload_n 0, 1, [], 0, 0),
  (30, .getfield 39, 3, [], 0, 0),
  (33, .iload_n 1, 1, [], 0, 0),
  (34, .aaload, 1, [], 0, 0),
  (35, .iload_n 2, 1, [], 0, 0),
  (36, .iload_n 3, 1, [], 0, 0),
  (37, .invokevirtual 268, 3, [], 0, 0),
  (40, .iconst 1, 1, [], 1, 0),
  (41, .ireturn, 1, [], 0, 0)]
def bt_TX5_lay : List bt_E := [
  (0, .iload_n 1, 1, [], 0, 0),
  (1, .invokestatic 262, 3, [], 0, 0),
  (4, .ifCond .ne 5, 3, [(0, 9)], 0, 0),
  (7, .iconst (-1), 1, [], (-1), 0),
  (8, .ireturn, 1, [], 0, 0),
  (9, .aload_n 0, 1, [], 0, 0),
  (10, .getfield 39, 3, [], 0, 0),
  (13, .iload_n 1, 1, [], 0, 0),
  (14, .aaload, 1, [], 0, 0),
  (15, .astore 4, 2, [], 0, 0),
  (17, .aload 4, 2, [], 0, 0),
  (19, .aload 4, 2, [], 0, 0),
  (21, .getfield 272, 3, [], 0, 0),
  (24, .iload_n 2, 1, [], 0, 0),
  (25, .invokevirtual 275, 3, [], 0, 0),
  (28, .istore 5, 2, [], 0, 0),
  (30, .iload 5, 2, [], 0, 0),
  (32, .ifCond .eq 9, 3, [(0, 41)], 0, 0),
  (35, .bipush (-10), 2, [], (-10), 0),
  (37, .iload 5, 2, [], 0, 0),
  (39, .isub, 1, [], 0, 0),
  (40, .ireturn, 1, [], 0, 0),
  (41, .aload 4, 2, [], 0, 0),
  (43, .iload_n 2, 1, [], 0, 0),
  (44, .iload_n 3, 1, [], 0, 0),
  (45, .invokevirtual 278, 3, [], 0, 0),
  (48, .iconst 1, 1, [], 1, 0),
  (49, .ireturn, 1, [], 0, 0)]
def bt_TX5_read : List bt_E := [
  (0, .iload_n 1, 1, [], 0, 0),
  (1, .invokestatic 262, 3, [], 0, 0),
  (4, .ifCond .eq 21, 3, [(0, 25)], 0, 0),
  (7, .iload_n 2, 1, [], 0, 0),
  (8, .invokestatic 265, 3, [], 0, 0),
  (11, .ifCond .eq 14, 3, [(0, 25)], 0, 0),
  (14, .iload 4, 2, [], 0, 0),
  (16, .iconst 0, 1, [], 0, 0),
  (17, .bipush 20, 2, [], 20, 0),
  (19, .invokestatic 57, 3, [], 0, 0),
  (22, .ifCond .ne 5, 3, [(0, 27)], 0, 0),
  (25, .iconst (-1), 1, [], (-1), 0),
  (26, .ireturn, 1, [], 0, 0),
  (27, .aload_n 0, 1, [], 0, 0),
  (28, .getfield 39, 3, [], 0, 0),
  (31, .iload_n 1, 1, [], 0, 0),
  (32, .aaload, 1, [], 0, 0),
  (33, .astore 5, 2, [], 0, 0),
  (35, .iconst 0, 1, [], 0, 0),
  (36, .istore 6, 2, [], 0, 0),
  (38, .iconst 0, 1, [], 0, 0),
  (39, .istore 7, 2, [], 0, 0),
  (41, .aload_n 0, 1, [], 0, 0),
  (42, .getfield 20, 3, [], 0, 0),
  (45, .aload_n 0, 1, [], 0, 0),
  (46, .getfield 16, 3, [], 0, 0),
  (49, .invokevirtual 78, 3, [], 0, 0),
  (52, .iload 7, 2, [], 0, 0),
  (54, .iload 4, 2, [], 0, 0),
  (56, .if_icmp .ge 78, 3, [(0, 134)], 0, 0),
  (59, .aload 5, 2, [], 0, 0),
  (61, .iload_n 2, 1, [], 0, 0),
  (62, .iload_n 3, 1, [], 0, 0),
  (63, .iload 7, 2, [], 0, 0),
  (65, .iadd, 1, [], 0, 0),
  (66, .invokevirtual 275, 3, [], 0, 0),
  (69, .istore 6, 2, [], 0, 0),
  (71, .iload 6, 2, [], 0, 0),
  (73, .ifCond .eq 6, 3, [(0, 79)], 0, 0),
  (76, .goto 58, 3, [(0, 134)], 0, 0),
  (79, .aload 5, 2, [], 0, 0),
  (81, .getfield 281, 3, [], 0, 0),
  (84, .iload_n 3, 1, [], 0, 0),
  (85, .iload 7, 2, [], 0, 0),
  (87, .iadd, 1, [], 0, 0),
  (88, .iaload, 1, [], 0, 0),
  (89, .istore 8, 2, [], 0, 0),
  (91, .iload 8, 2, [], 0, 0),
  (93, .iconst 0, 1, [], 0, 0),
  (94, .bipush 9, 2, [], 9, 0),
  (96, .invokestatic 57, 3, [], 0, 0),
  (99, .ifCond .eq 13, 3, [(0, 112)], 0, 0),
  (102, .aload_n 0, 1, [], 0, 0),
  (103, .getfield 20, 3, [], 0, 0),
  (106, .invokevirtual 168, 3, [], 0, 0),
  (109, .ifCond .eq 9, 3, [(0, 118)], 0, 0),
  (112, .bipush (-20), 2, [], (-20), 0),
  (114, .iload 7, 2, [], 0, 0),
  (116, .isub, 1, [], 0, 0),
  (117, .ireturn, 1, [], 0, 0),
  (118, .aload_n 0, 1, [], 0, 0),
  (119, .getfield 20, 3, [], 0, 0),
  (122, .iload 8, 2, [], 0, 0),
  (124, .invokevirtual 172, 3, [], 0, 0),
  (127, .pop, 1, [], 0, 0),
  (128, .iinc 7 1, 3, [], 1, 0),
  (131, .goto (-79), 3, [(0, 52)], 0, 0),
  (134, .aload_n 0, 1, [], 0, 0),
  (135, .getfield 16, 3, [], 0, 0),
  (138, .aload_n 0, 1, [], 0, 0),
  (139, .getfield 20, 3, [], 0, 0),
  (142, .invokevirtual 78, 3, [], 0, 0),
  (145, .aload_n 0, 1, [], 0, 0),
  (146, .iload 6, 2, [], 0, 0),
  (148, .putfield 284, 3, [], 0, 0),
  (151, .iload 7, 2, [], 0, 0),
  (153, .ireturn, 1, [], 0, 0)]
def bt_TX5_torn : List bt_E := [
  (0, .aload_n 0, 1, [], 0, 0),
  (1, .getfield 284, 3, [], 0, 0),
  (4, .ireturn, 1, [], 0, 0)]
def bt_TX5_count : List bt_E := [
  (0, .iload_n 1, 1, [], 0, 0),
  (1, .tableswitch 118 0 6 #[43, 51, 59, 64, 91, 102, 110], 43, [(0, 119), (0, 44), (1, 52), (2, 60), (3, 65), (4, 92), (5, 103), (6, 111)], 0, 0),
  (44, .aload_n 0, 1, [], 0, 0),
  (45, .getfield 46, 3, [], 0, 0),
  (48, .getfield 82, 3, [], 0, 0),
  (51, .ireturn, 1, [], 0, 0),
  (52, .aload_n 0, 1, [], 0, 0),
  (53, .getfield 85, 3, [], 0, 0),
  (56, .invokestatic 287, 3, [], 0, 0),
  (59, .ireturn, 1, [], 0, 0),
  (60, .aload_n 0, 1, [], 0, 0),
  (61, .getfield 61, 3, [], 0, 0),
  (64, .ireturn, 1, [], 0, 0),
  (65, .aload_n 0, 1, [], 0, 0),
  (66, .getfield 39, 3, [], 0, 0),
  (69, .iconst 0, 1, [], 0, 0),
  (70, .aaload, 1, [], 0, 0),
  (71, .getfield 292, 3, [], 0, 0),
  (74, .ifCond .ge 8, 3, [(0, 82)], 0, 0),
  (77, .bipush (-4), 2, [], (-4), 0),
  (79, .goto 12, 3, [(0, 91)], 0, 0),
  (82, .aload_n 0, 1, [], 0, 0),
  (83, .getfield 39, 3, [], 0, 0),
  (86, .iconst 0, 1, [], 0, 0),
  (87, .aaload, 1, [], 0, 0),
  (88, .getfield 292, 3, [], 0, 0),
  (91, .ireturn, 1, [], 0, 0),
  (92, .aload_n 0, 1, [], 0, 0),
  (93, .getfield 16, 3, [], 0, 0),
  (96, .getfield 106, 3, [], 0, 0),
  (99, .invokestatic 287, 3, [], 0, 0),
  (102, .ireturn, 1, [], 0, 0),
  (103, .aload_n 0, 1, [], 0, 0),
  (104, .getfield 16, 3, [], 0, 0),
  (107, .invokevirtual 295, 3, [], 0, 0),
  (110, .ireturn, 1, [], 0, 0),
  (111, .aload_n 0, 1, [], 0, 0),
  (112, .getfield 16, 3, [], 0, 0),
  (115, .invokevirtual 259, 3, [], 0, 0),
  (118, .ireturn, 1, [], 0, 0),
  (119, .iconst (-1), 1, [], (-1), 0),
  (120, .ireturn, 1, [], 0, 0)]
def bt_TX5_isStretch : List bt_E := [
  (0, .iload_n 1, 1, [], 0, 0),
  (1, .iconst 0, 1, [], 0, 0),
  (2, .aload_n 0, 1, [], 0, 0),
  (3, .getfield 16, 3, [], 0, 0),
  (6, .getfield 88, 3, [], 0, 0),
  (9, .iconst 1, 1, [], 1, 0),
  (10, .isub, 1, [], 0, 0),
  (11, .invokestatic 57, 3, [], 0, 0),
  (14, .ireturn, 1, [], 0, 0)]
def bt_TX5_isCar : List bt_E := [
  (0, .iload_n 1, 1, [], 0, 0),
  (1, .iconst 0, 1, [], 0, 0),
  (2, .aload_n 0, 1, [], 0, 0),
  (3, .getfield 16, 3, [], 0, 0),
  (6, .getfield 91, 3, [], 0, 0),
  (9, .iconst 1, 1, [], 1, 0),
  (10, .isub, 1, [], 0, 0),
  (11, .invokestatic 57, 3, [], 0, 0),
  (14, .ireturn, 1, [], 0, 0)]
def bt_TX5_isSheet : List bt_E := [
  (0, .iload_n 0, 1, [], 0, 0),
  (1, .iconst 0, 1, [], 0, 0),
  (2, .iconst 3, 1, [], 3, 0),
  (3, .invokestatic 57, 3, [], 0, 0),
  (6, .ireturn, 1, [], 0, 0)]
def bt_TX5_isLane : List bt_E := [
  (0, .iload_n 0, 1, [], 0, 0),
  (1, .iconst 0, 1, [], 0, 0),
  (2, .iconst 2, 1, [], 2, 0),
  (3, .invokestatic 57, 3, [], 0, 0),
  (6, .ireturn, 1, [], 0, 0)]
def bt_TX5_within : List bt_E := [
  (0, .iload_n 0, 1, [], 0, 0),
  (1, .iload_n 1, 1, [], 0, 0),
  (2, .if_icmp .lt 12, 3, [(0, 14)], 0, 0),
  (5, .iload_n 0, 1, [], 0, 0),
  (6, .iload_n 2, 1, [], 0, 0),
  (7, .if_icmp .gt 7, 3, [(0, 14)], 0, 0),
  (10, .iconst 1, 1, [], 1, 0),
  (11, .goto 4, 3, [(0, 15)], 0, 0),
  (14, .iconst 0, 1, [], 0, 0),
  (15, .ireturn, 1, [], 0, 0)]
def bt_TX5_bit : List bt_E := [
  (0, .iload_n 0, 1, [], 0, 0),
  (1, .iload_n 1, 1, [], 0, 0),
  (2, .ishr, 1, [], 0, 0),
  (3, .iconst 1, 1, [], 1, 0),
  (4, .iand, 1, [], 0, 0),
  (5, .ireturn, 1, [], 0, 0)]
def bt_TX5_withBit : List bt_E := [
  (0, .iload_n 2, 1, [], 0, 0),
  (1, .ifCond .eq 11, 3, [(0, 12)], 0, 0),
  (4, .iload_n 0, 1, [], 0, 0),
  (5, .iconst 1, 1, [], 1, 0),
  (6, .iload_n 1, 1, [], 0, 0),
  (7, .ishl, 1, [], 0, 0),
  (8, .ior, 1, [], 0, 0),
  (9, .goto 10, 3, [(0, 19)], 0, 0),
  (12, .iload_n 0, 1, [], 0, 0),
  (13, .iconst 1, 1, [], 1, 0),
  (14, .iload_n 1, 1, [], 0, 0),
  (15, .ishl, 1, [], 0, 0),
  (16, .iconst (-1), 1, [], (-1), 0),
  (17, .ixor, 1, [], 0, 0),
  (18, .iand, 1, [], 0, 0),
  (19, .ireturn, 1, [], 0, 0)]
def bt_TX5_exchange : List bt_E := [
  (0, .aload_n 0, 1, [], 0, 0),
  (1, .iload_n 1, 1, [], 0, 0),
  (2, .iaload, 1, [], 0, 0),
  (3, .istore_n 3, 1, [], 0, 0),
  (4, .aload_n 0, 1, [], 0, 0),
  (5, .iload_n 1, 1, [], 0, 0),
  (6, .iload_n 2, 1, [], 0, 0),
  (7, .iastore, 1, [], 0, 0),
  (8, .iload_n 3, 1, [], 0, 0),
  (9, .ireturn, 1, [], 0, 0)]
def bt_TX5_bestPlace : List bt_E := [
  (0, .aload_n 0, 1, [], 0, 0),
  (1, .getfield 20, 3, [], 0, 0),
  (4, .aload_n 0, 1, [], 0, 0),
  (5, .getfield 16, 3, [], 0, 0),
  (8, .invokevirtual 78, 3, [], 0, 0),
  (11, .aload_n 0, 1, [], 0, 0),
  (12, .getfield 20, 3, [], 0, 0),
  (15, .invokevirtual 175, 3, [], 0, 0),
  (18, .istore_n 3, 1, [], 0, 0),
  (19, .bipush (-4), 2, [], (-4), 0),
  (21, .istore 4, 2, [], 0, 0),
  (23, .iconst 0, 1, [], 0, 0),
  (24, .istore 5, 2, [], 0, 0),
  (26, .aload_n 0, 1, [], 0, 0),
  (27, .getfield 16, 3, [], 0, 0),
  (30, .getfield 100, 3, [], 0, 0),
  (33, .istore 6, 2, [], 0, 0),
  (35, .iload 6, 2, [], 0, 0),
  (37, .aload_n 0, 1, [], 0, 0),
  (38, .getfield 16, 3, [], 0, 0),
  (41, .getfield 88, 3, [], 0, 0),
  (44, .if_icmp .ge 134, 3, [(0, 178)], 0, 0),
  (47, .iload_n 1, 1, [], 0, 0),
  (48, .ifCond .eq 13, 3, [(0, 61)], 0, 0),
  (51, .aload_n 0, 1, [], 0, 0),
  (52, .getfield 16, 3, [], 0, 0),
  (55, .getfield 136, 3, [], 0, 0),
  (58, .goto 10, 3, [(0, 68)], 0, 0),
  (61, .aload_n 0, 1, [], 0, 0),
  (62, .getfield 16, 3, [], 0, 0),
  (65, .getfield 133, 3, [], 0, 0),
  (68, .iload 6, 2, [], 0, 0),
  (70, .invokestatic 129, 3, [], 0, 0),
  (73, .iconst 1, 1, [], 1, 0),
  (74, .if_icmp .ne 6, 3, [(0, 80)], 0, 0),
  (77, .goto 95, 3, [(0, 172)], 0, 0),
  (80, .aload_n 0, 1, [], 0, 0),
  (81, .getfield 20, 3, [], 0, 0),
  (84, .aload_n 0, 1, [], 0, 0),
  (85, .getfield 16, 3, [], 0, 0),
  (88, .invokevirtual 78, 3, [], 0, 0),
  (91, .iload_n 1, 1, [], 0, 0),
  (92, .ifCond .eq 26, 3, [(0, 118)], 0, 0),
  (95, .aload_n 0, 1, [], 0, 0),
  (96, .getfield 20, 3, [], 0, 0),
  (99, .aload_n 0, 1, [], 0, 0),
  (100, .getfield 20, 3, [], 0, 0),
  (103, .getfield 136, 3, [], 0, 0),
  (106, .iload 6, 2, [], 0, 0),
  (108, .iconst 1, 1, [], 1, 0),
  (109, .invokestatic 164, 3, [], 0, 0),
  (112, .putfield 136, 3, [], 0, 0),
  (115, .goto 31, 3, [(0, 146)], 0, 0),
  (118, .aload_n 0, 1, [], 0, 0),
  (119, .getfield 20, 3, [], 0, 0),
  (122, .aload_n 0, 1, [], 0, 0),
  (123, .getfield 20, 3, [], 0, 0),
  (126, .getfield 133, 3, [], 0, 0),
  (129, .iload 6, 2, [], 0, 0),
  (131, .iconst 1, 1, [], 1, 0),
  (132, .invokestatic 164, 3, [], 0, 0),
  (135, .putfield 133, 3, [], 0, 0),
  (138, .aload_n 0, 1, [], 0, 0),
  (139, .getfield 20, 3, [], 0, 0),
  (142, .iconst 1, 1, [], 1, 0),
  (143, .putfield 97, 3, [], 0, 0),
  (146, .iload_n 3, 1, [], 0, 0),
  (147, .aload_n 0, 1, [], 0, 0),
  (148, .getfield 20, 3, [], 0, 0),
  (151, .invokevirtual 175, 3, [], 0, 0),
  (154, .isub, 1, [], 0, 0),
  (155, .istore 7, 2, [], 0, 0),
  (157, .iload 7, 2, [], 0, 0),
  (159, .iload 5, 2, [], 0, 0),
  (161, .if_icmp .le 11, 3, [(0, 172)], 0, 0),
  (164, .iload 6, 2, [], 0, 0),
  (166, .istore 4, 2, [], 0, 0),
  (168, .iload 7, 2, [], 0, 0),
  (170, .istore 5, 2, [], 0, 0),
  (172, .iinc 6 1, 3, [], 1, 0),
  (175, .goto (-140), 3, [(0, 35)], 0, 0),
  (178, .iload_n 2, 1, [], 0, 0),
  (179, .ifCond .eq 10, 3, [(0, 189)], 0, 0),
  (182, .iload 4, 2, [], 0, 0),
  (184, .bipush (-4), 2, [], (-4), 0),
  (186, .if_icmp .ne 8, 3, [(0, 194)], 0, 0),
  (189, .iload 4, 2, [], 0, 0),
  (191, .goto 5, 3, [(0, 196)], 0, 0),
  (194, .iload 5, 2, [], 0, 0),
  (196, .ireturn, 1, [], 0, 0)]
def bt_TX5_lowest : List bt_E := [
  (0, .lload_n 0, 1, [], 0, 0),
  (1, .lstore 5, 2, [], 0, 0),
  (3, .lload_n 2, 1, [], 0, 0),
  (4, .lstore 7, 2, [], 0, 0),
  (6, .iconst 0, 1, [], 0, 0),
  (7, .istore 9, 2, [], 0, 0),
  (9, .iload 9, 2, [], 0, 0),
  (11, .sipush 200, 3, [], 200, 0),
  (14, .if_icmp .ge 31, 3, [(0, 45)], 0, 0),
  (17, .lload 7, 2, [], 0, 0),
  (19, .lconst 0, 1, [], 0, 0),
  (20, .lcmp, 1, [], 0, 0),
  (21, .ifCond .eq 24, 3, [(0, 45)], 0, 0),
  (24, .lload 5, 2, [], 0, 0),
  (26, .lload 7, 2, [], 0, 0),
  (28, .lrem, 1, [], 0, 0),
  (29, .lstore 10, 2, [], 0, 0),
  (31, .lload 7, 2, [], 0, 0),
  (33, .lstore 5, 2, [], 0, 0),
  (35, .lload 10, 2, [], 0, 0),
  (37, .lstore 7, 2, [], 0, 0),
  (39, .iinc 9 1, 3, [], 1, 0),
  (42, .goto (-33), 3, [(0, 9)], 0, 0),
  (45, .lload 5, 2, [], 0, 0),
  (47, .lconst 0, 1, [], 0, 0),
  (48, .lcmp, 1, [], 0, 0),
  (49, .ifCond .gt 14, 3, [(0, 63)], 0, 0),
  (52, .iload 4, 2, [], 0, 0),
  (54, .ifCond .ne 7, 3, [(0, 61)], 0, 0),
  (57, .lload_n 0, 1, [], 0, 0),
  (58, .goto 4, 3, [(0, 62)], 0, 0),
  (61, .lload_n 2, 1, [], 0, 0),
  (62, .lreturn, 1, [], 0, 0),
  (63, .iload 4, 2, [], 0, 0),
  (65, .ifCond .ne 10, 3, [(0, 75)], 0, 0),
  (68, .lload_n 0, 1, [], 0, 0),
  (69, .lload 5, 2, [], 0, 0),
  (71, .ldiv, 1, [], 0, 0),
  (72, .goto 7, 3, [(0, 79)], 0, 0),
  (75, .lload_n 2, 1, [], 0, 0),
  (76, .lload 5, 2, [], 0, 0),
  (78, .ldiv, 1, [], 0, 0),
  (79, .lreturn, 1, [], 0, 0)]
def bt_TX6_in : List bt_E := [
  (0, .lload_n 0, 1, [], 0, 0),
  (1, .lload_n 2, 1, [], 0, 0),
  (2, .lcmp, 1, [], 0, 0),
  (3, .ifCond .lt 14, 3, [(0, 17)], 0, 0),
  (6, .lload_n 0, 1, [], 0, 0),
  (7, .lload 4, 2, [], 0, 0),
  (9, .lcmp, 1, [], 0, 0),
  (10, .ifCond .gt 7, 3, [(0, 17)], 0, 0),
  (13, .iconst 1, 1, [], 1, 0),
  (14, .goto 4, 3, [(0, 18)], 0, 0),
  (17, .iconst 0, 1, [], 0, 0),
  (18, .ireturn, 1, [], 0, 0)]
def bt_TX6_feed : List bt_E := [
  (0, .iload_n 1, 1, [], 0, 0),
  (1, .i2l, 1, [], 0, 0),
  (2, .lconst 0, 1, [], 0, 0),
  (3, .ldc2_w 44, 3, [], 0, 127),
  (6, .invokestatic 46, 3, [], 0, 0),
  (9, .ifCond .ne 5, 3, [(0, 14)], 0, 0),
  (12, .iconst (-1), 1, [], (-1), 0),
  (13, .ireturn, 1, [], 0, 0),
  (14, .aload_n 0, 1, [], 0, 0),
  (15, .getfield 50, 3, [], 0, 0),
  (18, .sipush 160, 3, [], 160, 0),
  (21, .if_icmp .ne 6, 3, [(0, 27)], 0, 0),
  (24, .bipush (-3), 2, [], (-3), 0),
  (26, .ireturn, 1, [], 0, 0),
  (27, .aload_n 0, 1, [], 0, 0),
  (28, .getfield 19, 3, [], 0, 0),
  (31, .aload_n 0, 1, [], 0, 0),
  (32, .getfield 50, 3, [], 0, 0),
  (35, .iload_n 1, 1, [], 0, 0),
  (36, .iastore, 1, [], 0, 0),
  (37, .aload_n 0, 1, [], 0, 0),
  (38, .dup, 1, [], 0, 0),
  (39, .getfield 50, 3, [], 0, 0),
  (42, .iconst 1, 1, [], 1, 0),
  (43, .iadd, 1, [], 0, 0),
  (44, .putfield 50, 3, [], 0, 0),
  (47, .aload_n 0, 1, [], 0, 0),
  (48, .getfield 50, 3, [], 0, 0),
  (51, .ireturn, 1, [], 0, 0)]
def bt_TX6_end : List bt_E := [
  (0, .iload_n 1, 1, [], 0, 0),
  (1, .i2l, 1, [], 0, 0),
  (2, .lconst 0, 1, [], 0, 0),
  (3, .aload_n 0, 1, [], 0, 0),
  (4, .getfield 50, 3, [], 0, 0),
  (7, .i2l, 1, [], 0, 0),
  (8, .invokestatic 46, 3, [], 0, 0),
  (11, .ifCond .ne 5, 3, [(0, 16)], 0, 0),
  (14, .iconst (-1), 1, [], (-1), 0),
  (15, .ireturn, 1, [], 0, 0),
  (16, .aload_n 0, 1, [], 0, 0),
  (17, .getfield 50, 3, [], 0, 0),
  (20, .istore_n 2, 1, [], 0, 0),
  (21, .aload_n 0, 1, [], 0, 0),
  (22, .iload_n 1, 1, [], 0, 0),
  (23, .putfield 50, 3, [], 0, 0),
  (26, .iload_n 2, 1, [], 0, 0),
  (27, .ireturn, 1, [], 0, 0)]
def bt_TX6_byteAt : List bt_E := [
  (0, .iload_n 1, 1, [], 0, 0),
  (1, .aload_n 0, 1, [], 0, 0),
  (2, .getfield 50, 3, [], 0, 0),
  (5, .if_icmp .ge 12, 3, [(0, 17)], 0, 0),
  (8, .aload_n 0, 1, [], 0, 0),
  (9, .getfield 19, 3, [], 0, 0),
  (12, .iload_n 1, 1, [], 0, 0),
  (13, .iaload, 1, [], 0, 0),
  (14, .goto 5, 3, [(0, 19)], 0, 0),
  (17, .bipush (-4), 2, [], (-4), 0),
  (19, .ireturn, 1, [], 0, 0)]
def bt_TX6_fails : List bt_E := [
  (0, .aload_n 0, 1, [], 0, 0),
  (1, .getfield 54, 3, [], 0, 0),
  (4, .ifCond .ne 16, 3, [(0, 20)], 0, 0),
  (7, .aload_n 0, 1, [], 0, 0),
  (8, .iload_n 1, 1, [], 0, 0),
  (9, .putfield 54, 3, [], 0, 0),
  (12, .aload_n 0, 1, [], 0, 0),
  (13, .aload_n 0, 1, [], 0, 0),
  (14, .getfield 57, 3, [], 0, 0),
  (17, .putfield 60, 3, [], 0, 0),
  (20, .return_, 1, [], 0, 0)]
def bt_TX6_nameHere : List bt_E := [
  (0, .iconst 0, 1, [], 0, 0),
  (1, .istore_n 1, 1, [], 0, 0),
  (2, .iload_n 1, 1, [], 0, 0),
  (3, .bipush 12, 2, [], 12, 0),
  (5, .if_icmp .ge 113, 3, [(0, 118)], 0, 0),
  (8, .aload_n 0, 1, [], 0, 0),
  (9, .getfield 63, 3, [], 0, 0),
  (12, .iconst 1, 1, [], 1, 0),
  (13, .if_icmp .ne 105, 3, [(0, 118)], 0, 0),
  (16, .aload_n 0, 1, [], 0, 0),
  (17, .getfield 66, 3, [], 0, 0),
  (20, .aload_n 0, 1, [], 0, 0),
  (21, .getfield 57, 3, [], 0, 0),
  (24, .isub, 1, [], 0, 0),
  (25, .aload_n 0, 1, [], 0, 0),
  (26, .getfield 22, 3, [], 0, 0),
  (29, .iload_n 1, 1, [], 0, 0),
  (30, .iconst 1, 1, [], 1, 0),
  (31, .iadd, 1, [], 0, 0),
  (32, .iaload, 1, [], 0, 0),
  (33, .aload_n 0, 1, [], 0, 0),
  (34, .getfield 22, 3, [], 0, 0),
  (37, .iload_n 1, 1, [], 0, 0),
  (38, .iaload, 1, [], 0, 0),
  (39, .isub, 1, [], 0, 0),
  (40, .if_icmp .ne 7, 3, [(0, 47)], 0, 0),
  (43, .iconst 1, 1, [], 1, 0),
  (44, .goto 4, 3, [(0, 48)], 0, 0),
  (47, .iconst 0, 1, [], 0, 0),
  (48, .istore_n 2, 1, [], 0, 0),
  (49, .iconst 0, 1, [], 0, 0),
  (50, .istore_n 3, 1, [], 0, 0),
  (51, .iload_n 2, 1, [], 0, 0),
  (52, .ifCond .eq 54, 3, [(0, 106)], 0, 0),
  (55, .iload_n 3, 1, [], 0, 0),
  (56, .aload_n 0, 1, [], 0, 0),
  (57, .getfield 66, 3, [], 0, 0),
  (60, .aload_n 0, 1, [], 0, 0),
  (61, .getfield 57, 3, [], 0, 0),
  (64, .isub, 1, [], 0, 0),
  (65, .if_icmp .ge 41, 3, [(0, 106)], 0, 0),
  (68, .aload_n 0, 1, [], 0, 0),
  (69, .aload_n 0, 1, [], 0, 0),
  (70, .getfield 57, 3, [], 0, 0),
  (73, .iload_n 3, 1, [], 0, 0),
  (74, .iadd, 1, [], 0, 0),
  (75, .invokevirtual 69, 3, [], 0, 0),
  (78, .aload_n 0, 1, [], 0, 0),
  (79, .getfield 25, 3, [], 0, 0),
  (82, .aload_n 0, 1, [], 0, 0),
  (83, .getfield 22, 3, [], 0, 0),
  (86, .iload_n 1, 1, [], 0, 0),
  (87, .iaload, 1, [], 0, 0),
  (88, .iload_n 3, 1, [], 0, 0),
  (89, .iadd, 1, [], 0, 0),
  (90, .iaload, 1, [], 0, 0),
  (91, .if_icmp .ne 7, 3, [(0, 98)], 0, 0),
  (94, .iconst 1, 1, [], 1, 0),
  (95, .goto 4, 3, [(0, 99)], 0, 0),
  (98, .iconst 0, 1, [], 0, 0),
  (99, .istore_n 2, 1, [], 0, 0),
  (100, .iinc 3 1, 3, [], 1, 0),
  (103, .goto (-52), 3, [(0, 51)], 0, 0),
  (106, .iload_n 2, 1, [], 0, 0),
  (107, .ifCond .eq 5, 3, [(0, 112)], 0, 0),
  (110, .iload_n 1, 1, [], 0, 0),
  (111, .ireturn, 1, [], 0, 0),
  (112, .iinc 1 1, 3, [], 1, 0),
  (115, .goto (-113), 3, [(0, 2)], 0, 0),
  (118, .bipush (-4), 2, [], (-4), 0),
  (120, .ireturn, 1, [], 0, 0)]
def bt_TX6_step : List bt_E := [
  (0, .aload_n 0, 1, [], 0, 0),
  (1, .getfield 54, 3, [], 0, 0),
  (4, .ifCond .le 4, 3, [(0, 8)], 0, 0),
  (7, .return_, 1, [], 0, 0),
  (8, .aload_n 0, 1, [], 0, 0),
  (9, .aload_n 0, 1, [], 0, 0),
  (10, .getfield 66, 3, [], 0, 0),
  (13, .invokevirtual 69, 3, [], 0, 0),
  (16, .bipush 32, 2, [], 32, 0),
  (18, .if_icmp .ne 16, 3, [(0, 34)], 0, 0),
  (21, .aload_n 0, 1, [], 0, 0),
  (22, .dup, 1, [], 0, 0),
  (23, .getfield 66, 3, [], 0, 0),
  (26, .iconst 1, 1, [], 1, 0),
  (27, .iadd, 1, [], 0, 0),
  (28, .putfield 66, 3, [], 0, 0),
  (31, .goto (-23), 3, [(0, 8)], 0, 0),
  (34, .aload_n 0, 1, [], 0, 0),
  (35, .aload_n 0, 1, [], 0, 0),
  (36, .getfield 66, 3, [], 0, 0),
  (39, .putfield 57, 3, [], 0, 0),
  (42, .aload_n 0, 1, [], 0, 0),
  (43, .aload_n 0, 1, [], 0, 0),
  (44, .getfield 66, 3, [], 0, 0),
  (47, .invokevirtual 69, 3, [], 0, 0),
  (50, .istore_n 1, 1, [], 0, 0),
  (51, .aload_n 0, 1, [], 0, 0),
  (52, .iconst 0, 1, [], 0, 0),
  (53, .putfield 73, 3, [], 0, 0),
  (56, .iload_n 1, 1, [], 0, 0),
  (57, .bipush (-4), 2, [], (-4), 0),
  (59, .if_icmp .ne 11, 3, [(0, 70)], 0, 0),
  (62, .aload_n 0, 1, [], 0, 0),
  (63, .iconst 0, 1, [], 0, 0),
  (64, .putfield 63, 3, [], 0, 0),
  (67, .goto 202, 3, [(0, 269)], 0, 0),
  (70, .iload_n 1, 1, [], 0, 0),
  (71, .i2l, 1, [], 0, 0),
  (72, .ldc2_w 76, 3, [], 0, 97),
  (75, .ldc2_w 78, 3, [], 0, 122),
  (78, .invokestatic 46, 3, [], 0, 0),
  (81, .ifCond .eq 45, 3, [(0, 126)], 0, 0),
  (84, .aload_n 0, 1, [], 0, 0),
  (85, .aload_n 0, 1, [], 0, 0),
  (86, .getfield 66, 3, [], 0, 0),
  (89, .invokevirtual 69, 3, [], 0, 0),
  (92, .i2l, 1, [], 0, 0),
  (93, .ldc2_w 76, 3, [], 0, 97),
  (96, .ldc2_w 78, 3, [], 0, 122),
  (99, .invokestatic 46, 3, [], 0, 0),
  (102, .ifCond .eq 16, 3, [(0, 118)], 0, 0),
  (105, .aload_n 0, 1, [], 0, 0),
  (106, .dup, 1, [], 0, 0),
  (107, .getfield 66, 3, [], 0, 0),
  (110, .iconst 1, 1, [], 1, 0),
  (111, .iadd, 1, [], 0, 0),
  (112, .putfield 66, 3, [], 0, 0),
  (115, .goto (-31), 3, [(0, 84)], 0, 0),
  (118, .aload_n 0, 1, [], 0, 0),
  (119, .iconst 1, 1, [], 1, 0),
  (120, .putfield 63, 3, [], 0, 0),
  (123, .goto 146, 3, [(0, 269)], 0, 0),
  (126, .iload_n 1, 1, [], 0, 0),
  (127, .i2l, 1, [], 0, 0),
  (128, .ldc2_w 80, 3, [], 0, 48),
  (131, .ldc2_w 82, 3, [], 0, 57),
  (134, .invokestatic 46, 3, [], 0, 0),
  (137, .ifCond .eq 106, 3, [(0, 243)], 0, 0),
  (140, .aload_n 0, 1, [], 0, 0),
  (141, .aload_n 0, 1, [], 0, 0),
  (142, .getfield 66, 3, [], 0, 0),
  (145, .invokevirtual 69, 3, [], 0, 0),
  (148, .i2l, 1, [], 0, 0),
  (149, .ldc2_w 80, 3, [], 0, 48),
  (152, .ldc2_w 82, 3, [], 0, 57),
  (155, .invokestatic 46, 3, [], 0, 0),
  (158, .ifCond .eq 59, 3, [(0, 217)], 0, 0),
  (161, .aload_n 0, 1, [], 0, 0),
  (162, .aload_n 0, 1, [], 0, 0),
  (163, .getfield 66, 3, [], 0, 0),
  (166, .aload_n 0, 1, [], 0, 0),
  (167, .getfield 57, 3, [], 0, 0),
  (170, .isub, 1, [], 0, 0),
  (171, .iconst 2, 1, [], 2, 0),
  (172, .if_icmp .ge 25, 3, [(0, 197)], 0, 0),
  (175, .bipush 10, 2, [], 10, 0),
  (177, .aload_n 0, 1, [], 0, 0),
  (178, .getfield 73, 3, [], 0, 0),
  (181, .imul, 1, [], 0, 0),
  (182, .aload_n 0, 1, [], 0, 0),
  (183, .aload_n 0, 1, [], 0, 0),
  (184, .getfield 66, 3, [], 0, 0),
  (187, .invokevirtual 69, 3, [], 0, 0),
  (190, .iadd, 1, [], 0, 0),
  (191, .bipush 48, 2, [], 48, 0),
  (193, .isub, 1, [], 0, 0),
  (194, .goto 7, 3, [(0, 201)], 0, 0),
  (197, .aload_n 0, 1, [], 0, 0),
  (198, .getfield 73, 3, [], 0, 0),
  (201, .putfield 73, 3, [], 0, 0),
  (204, .aload_n 0, 1, [], 0, 0),
  (205, .dup, 1, [], 0, 0),
  (206, .getfield 66, 3, [], 0, 0),
  (209, .iconst 1, 1, [], 1, 0),
  (210, .iadd, 1, [], 0, 0),
  (211, .putfield 66, 3, [], 0, 0),
  (214, .goto (-74), 3, [(0, 140)], 0, 0),
  (217, .aload_n 0, 1, [], 0, 0),
  (218, .iconst 2, 1, [], 2, 0),
  (219, .putfield 63, 3, [], 0, 0),
  (222, .aload_n 0, 1, [], 0, 0),
  (223, .getfield 66, 3, [], 0, 0),
  (226, .aload_n 0, 1, [], 0, 0),
  (227, .getfield 57, 3, [], 0, 0),
  (230, .isub, 1, [], 0, 0),
  (231, .iconst 2, 1, [], 2, 0),
  (232, .if_icmp .le 37, 3, [(0, 269)], 0, 0),
  (235, .aload_n 0, 1, [], 0, 0),
  (236, .iconst 1, 1, [], 1, 0),
  (237, .invokevirtual 84, 3, [], 0, 0),
  (240, .goto 29, 3, [(0, 269)], 0, 0),
  (243, .aload_n 0, 1, [], 0, 0),
  (244, .iconst 3, 1, [], 3, 0),
  (245, .putfield 63, 3, [], 0, 0),
  (248, .aload_n 0, 1, [], 0, 0),
  (249, .dup, 1, [], 0, 0),
  (250, .getfield 66, 3, [], 0, 0),
  (253, .iconst 1, 1, [], 1, 0),
  (254, .iadd, 1, [], 0, 0),
  (255, .putfield 66, 3, [], 0, 0),
  (258, .iload_n 1, 1, [], 0, 0),
  (259, .bipush 59, 2, [], 59, 0),
  (261, .if_icmp .eq 8, 3, [(0, 269)], 0, 0),
  (264, .aload_n 0, 1, [], 0, 0),
  (265, .iconst 1, 1, [], 1, 0),
  (266, .invokevirtual 84, 3, [], 0, 0),
  (269, .return_, 1, [], 0, 0)]
def bt_TX6_number : List bt_E := [
  (0, .aload_n 0, 1, [], 0, 0),
  (1, .getfield 54, 3, [], 0, 0),
  (4, .ifCond .ne 16, 3, [(0, 20)], 0, 0),
  (7, .aload_n 0, 1, [], 0, 0),
  (8, .getfield 63, 3, [], 0, 0),
  (11, .iconst 2, 1, [], 2, 0),
  (12, .if_icmp .eq 8, 3, [(0, 20)], 0, 0),
  (15, .aload_n 0, 1, [], 0, 0),
  (16, .iconst 2, 1, [], 2, 0),
  (17, .invokevirtual 84, 3, [], 0, 0),
  (20, .aload_n 0, 1, [], 0, 0),
  (21, .getfield 54, 3, [], 0, 0),
  (24, .ifCond .ne 23, 3, [(0, 47)], 0, 0),
  (27, .aload_n 0, 1, [], 0, 0),
  (28, .getfield 73, 3, [], 0, 0),
  (31, .i2l, 1, [], 0, 0),
  (32, .iload_n 1, 1, [], 0, 0),
  (33, .i2l, 1, [], 0, 0),
  (34, .iload_n 2, 1, [], 0, 0),
  (35, .i2l, 1, [], 0, 0),
  (36, .invokestatic 46, 3, [], 0, 0),
  (39, .ifCond .ne 8, 3, [(0, 47)], 0, 0),
  (42, .aload_n 0, 1, [], 0, 0),
  (43, .iconst 3, 1, [], 3, 0),
  (44, .invokevirtual 84, 3, [], 0, 0),
  (47, .aload_n 0, 1, [], 0, 0),
  (48, .getfield 54, 3, [], 0, 0),
  (51, .ifCond .ne 10, 3, [(0, 61)], 0, 0),
  (54, .aload_n 0, 1, [], 0, 0),
  (55, .getfield 73, 3, [], 0, 0),
  (58, .goto 4, 3, [(0, 62)], 0, 0),
  (61, .iload_n 1, 1, [], 0, 0),
  (62, .istore_n 3, 1, [], 0, 0),
  (63, .aload_n 0, 1, [], 0, 0),
  (64, .invokevirtual 88, 3, [], 0, 0),
  (67, .iload_n 3, 1, [], 0, 0),
  (68, .ireturn, 1, [], 0, 0)]
def bt_TX6_fresh : List bt_E := [
  (0, .aload_n 0, 1, [], 0, 0),
  (1, .getfield 54, 3, [], 0, 0),
  (4, .ifCond .ne 48, 3, [(0, 52)], 0, 0),
  (7, .aload_n 0, 1, [], 0, 0),
  (8, .getfield 63, 3, [], 0, 0),
  (11, .iconst 2, 1, [], 2, 0),
  (12, .if_icmp .ne 40, 3, [(0, 52)], 0, 0),
  (15, .aload_n 0, 1, [], 0, 0),
  (16, .getfield 73, 3, [], 0, 0),
  (19, .i2l, 1, [], 0, 0),
  (20, .lconst 0, 1, [], 0, 0),
  (21, .ldc2_w 91, 3, [], 0, 7),
  (24, .invokestatic 46, 3, [], 0, 0),
  (27, .ifCond .eq 25, 3, [(0, 52)], 0, 0),
  (30, .aload_n 0, 1, [], 0, 0),
  (31, .getfield 16, 3, [], 0, 0),
  (34, .iload_n 1, 1, [], 0, 0),
  (35, .iaload, 1, [], 0, 0),
  (36, .aload_n 0, 1, [], 0, 0),
  (37, .getfield 73, 3, [], 0, 0),
  (40, .ishr, 1, [], 0, 0),
  (41, .iconst 1, 1, [], 1, 0),
  (42, .iand, 1, [], 0, 0),
  (43, .iconst 1, 1, [], 1, 0),
  (44, .if_icmp .ne 8, 3, [(0, 52)], 0, 0),
  (47, .aload_n 0, 1, [], 0, 0),
  (48, .iconst 4, 1, [], 4, 0),
  (49, .invokevirtual 84, 3, [], 0, 0),
  (52, .aload_n 0, 1, [], 0, 0),
  (53, .iconst 0, 1, [], 0, 0),
  (54, .bipush 7, 2, [], 7, 0),
  (56, .invokevirtual 93, 3, [], 0, 0),
  (59, .istore_n 2, 1, [], 0, 0),
  (60, .aload_n 0, 1, [], 0, 0),
  (61, .getfield 16, 3, [], 0, 0),
  (64, .iload_n 1, 1, [], 0, 0),
  (65, .dup2, 1, [], 0, 0),
  (66, .iaload, 1, [], 0, 0),
  (67, .iconst 1, 1, [], 1, 0),
  (68, .iload_n 2, 1, [], 0, 0),
  (69, .ishl, 1, [], 0, 0),
  (70, .ior, 1, [], 0, 0),
  (71, .iastore, 1, [], 0, 0),
  (72, .aload_n 0, 1, [], 0, 0),
  (73, .iload_n 2, 1, [], 0, 0),
  (74, .aload_n 0, 1, [], 0, 0),
  (75, .getfield 97, 3, [], 0, 0),
  (78, .if_icmp .le 7, 3, [(0, 85)], 0, 0),
  (81, .iload_n 2, 1, [], 0, 0),
  (82, .goto 7, 3, [(0, 89)], 0, 0),
  (85, .aload_n 0, 1, [], 0, 0),
  (86, .getfield 97, 3, [], 0, 0),
  (89, .putfield 97, 3, [], 0, 0),
  (92, .iload_n 2, 1, [], 0, 0),
  (93, .ireturn, 1, [], 0, 0)]
def bt_TX6_readCar : List bt_E := [
  (0, .bipush 58, 2, [], 58, 0),
  (2, .iconst 5, 1, [], 5, 0),
  (3, .aload_n 0, 1, [], 0, 0),
  (4, .getfield 100, 3, [], 0, 0),
  (7, .imul, 1, [], 0, 0),
  (8, .iadd, 1, [], 0, 0),
  (9, .istore_n 1, 1, [], 0, 0),
  (10, .aload_n 0, 1, [], 0, 0),
  (11, .invokevirtual 103, 3, [], 0, 0),
  (14, .bipush 7, 2, [], 7, 0),
  (16, .isub, 1, [], 0, 0),
  (17, .istore_n 2, 1, [], 0, 0),
  (18, .aload_n 0, 1, [], 0, 0),
  (19, .getfield 54, 3, [], 0, 0),
  (22, .ifCond .ne 12, 3, [(0, 34)], 0, 0),
  (25, .iload_n 2, 1, [], 0, 0),
  (26, .ifCond .ge 8, 3, [(0, 34)], 0, 0),
  (29, .aload_n 0, 1, [], 0, 0),
  (30, .iconst 2, 1, [], 2, 0),
  (31, .invokevirtual 84, 3, [], 0, 0),
  (34, .aload_n 0, 1, [], 0, 0),
  (35, .getfield 13, 3, [], 0, 0),
  (38, .iload_n 1, 1, [], 0, 0),
  (39, .iload_n 2, 1, [], 0, 0),
  (40, .iastore, 1, [], 0, 0),
  (41, .aload_n 0, 1, [], 0, 0),
  (42, .invokevirtual 88, 3, [], 0, 0),
  (45, .aload_n 0, 1, [], 0, 0),
  (46, .getfield 13, 3, [], 0, 0),
  (49, .iload_n 1, 1, [], 0, 0),
  (50, .iconst 1, 1, [], 1, 0),
  (51, .iadd, 1, [], 0, 0),
  (52, .aload_n 0, 1, [], 0, 0),
  (53, .iconst 1, 1, [], 1, 0),
  (54, .bipush 9, 2, [], 9, 0),
  (56, .invokevirtual 93, 3, [], 0, 0),
  (59, .iastore, 1, [], 0, 0),
  (60, .aload_n 0, 1, [], 0, 0),
  (61, .getfield 13, 3, [], 0, 0),
  (64, .iload_n 1, 1, [], 0, 0),
  (65, .iconst 2, 1, [], 2, 0),
  (66, .iadd, 1, [], 0, 0),
  (67, .aload_n 0, 1, [], 0, 0),
  (68, .iconst 1, 1, [], 1, 0),
  (69, .iconst 5, 1, [], 5, 0),
  (70, .invokevirtual 93, 3, [], 0, 0),
  (73, .iastore, 1, [], 0, 0),
  (74, .aload_n 0, 1, [], 0, 0),
  (75, .dup, 1, [], 0, 0),
  (76, .getfield 100, 3, [], 0, 0),
  (79, .iconst 1, 1, [], 1, 0),
  (80, .iadd, 1, [], 0, 0),
  (81, .putfield 100, 3, [], 0, 0),
  (84, .return_, 1, [], 0, 0)]
def bt_TX6_readMore : List bt_E := [
  (0, .iload_n 1, 1, [], 0, 0),
  (1, .ifCond .ne 77, 3, [(0, 78)], 0, 0),
  (4, .aload_n 0, 1, [], 0, 0),
  (5, .getfield 13, 3, [], 0, 0),
  (8, .bipush 7, 2, [], 7, 0),
  (10, .aload_n 0, 1, [], 0, 0),
  (11, .getfield 107, 3, [], 0, 0),
  (14, .imul, 1, [], 0, 0),
  (15, .aload_n 0, 1, [], 0, 0),
  (16, .iconst 1, 1, [], 1, 0),
  (17, .bipush 9, 2, [], 9, 0),
  (19, .invokevirtual 93, 3, [], 0, 0),
  (22, .iastore, 1, [], 0, 0),
  (23, .aload_n 0, 1, [], 0, 0),
  (24, .getfield 13, 3, [], 0, 0),
  (27, .bipush 7, 2, [], 7, 0),
  (29, .aload_n 0, 1, [], 0, 0),
  (30, .getfield 107, 3, [], 0, 0),
  (33, .imul, 1, [], 0, 0),
  (34, .iconst 1, 1, [], 1, 0),
  (35, .iadd, 1, [], 0, 0),
  (36, .aload_n 0, 1, [], 0, 0),
  (37, .iconst 0, 1, [], 0, 0),
  (38, .bipush 9, 2, [], 9, 0),
  (40, .invokevirtual 93, 3, [], 0, 0),
  (43, .iastore, 1, [], 0, 0),
  (44, .aload_n 0, 1, [], 0, 0),
  (45, .getfield 13, 3, [], 0, 0),
  (48, .bipush 7, 2, [], 7, 0),
  (50, .aload_n 0, 1, [], 0, 0),
  (51, .getfield 107, 3, [], 0, 0),
  (54, .imul, 1, [], 0, 0),
  (55, .iconst 2, 1, [], 2, 0),
  (56, .iadd, 1, [], 0, 0),
  (57, .aload_n 0, 1, [], 0, 0),
  (58, .iconst 0, 1, [], 0, 0),
  (59, .bipush 9, 2, [], 9, 0),
  (61, .invokevirtual 93, 3, [], 0, 0),
  (64, .iastore, 1, [], 0, 0),
  (65, .aload_n 0, 1, [], 0, 0),
  (66, .dup, 1, [], 0, 0),
  (67, .getfield 107, 3, [], 0, 0),
  (70, .iconst 1, 1, [], 1, 0),
  (71, .iadd, 1, [], 0, 0),
  (72, .putfield 107, 3, [], 0, 0),
  (75, .goto 126, 3, [(0, 201)], 0, 0),
  (78, .iload_n 1, 1, [], 0, 0),
  (79, .iconst 5, 1, [], 5, 0),
  (80, .if_icmp .ne 36, 3, [(0, 116)], 0, 0),
  (83, .aload_n 0, 1, [], 0, 0),
  (84, .getfield 13, 3, [], 0, 0),
  (87, .bipush 56, 2, [], 56, 0),
  (89, .aload_n 0, 1, [], 0, 0),
  (90, .iconst 1, 1, [], 1, 0),
  (91, .bipush 9, 2, [], 9, 0),
  (93, .invokevirtual 93, 3, [], 0, 0),
  (96, .iconst 5, 1, [], 5, 0),
  (97, .isub, 1, [], 0, 0),
  (98, .iastore, 1, [], 0, 0),
  (99, .aload_n 0, 1, [], 0, 0),
  (100, .getfield 13, 3, [], 0, 0),
  (103, .bipush 57, 2, [], 57, 0),
  (105, .aload_n 0, 1, [], 0, 0),
  (106, .iconst 0, 1, [], 0, 0),
  (107, .bipush 6, 2, [], 6, 0),
  (109, .invokevirtual 93, 3, [], 0, 0),
  (112, .iastore, 1, [], 0, 0),
  (113, .goto 88, 3, [(0, 201)], 0, 0),
  (116, .iload_n 1, 1, [], 0, 0),
  (117, .bipush 6, 2, [], 6, 0),
  (119, .if_icmp .ne 10, 3, [(0, 129)], 0, 0),
  (122, .aload_n 0, 1, [], 0, 0),
  (123, .invokevirtual 110, 3, [], 0, 0),
  (126, .goto 75, 3, [(0, 201)], 0, 0),
  (129, .iload_n 1, 1, [], 0, 0),
  (130, .iconst 2, 1, [], 2, 0),
  (131, .if_icmp .ne 33, 3, [(0, 164)], 0, 0),
  (134, .aload_n 0, 1, [], 0, 0),
  (135, .iload_n 1, 1, [], 0, 0),
  (136, .invokevirtual 113, 3, [], 0, 0),
  (139, .istore_n 2, 1, [], 0, 0),
  (140, .aload_n 0, 1, [], 0, 0),
  (141, .getfield 13, 3, [], 0, 0),
  (144, .bipush 7, 2, [], 7, 0),
  (146, .iload_n 2, 1, [], 0, 0),
  (147, .imul, 1, [], 0, 0),
  (148, .iconst 3, 1, [], 3, 0),
  (149, .iadd, 1, [], 0, 0),
  (150, .aload_n 0, 1, [], 0, 0),
  (151, .iconst 0, 1, [], 0, 0),
  (152, .bipush 10, 2, [], 10, 0),
  (154, .invokevirtual 93, 3, [], 0, 0),
  (157, .bipush 10, 2, [], 10, 0),
  (159, .isub, 1, [], 0, 0),
  (160, .iastore, 1, [], 0, 0),
  (161, .goto 40, 3, [(0, 201)], 0, 0),
  (164, .aload_n 0, 1, [], 0, 0),
  (165, .iload_n 1, 1, [], 0, 0),
  (166, .invokevirtual 113, 3, [], 0, 0),
  (169, .istore_n 2, 1, [], 0, 0),
  (170, .aload_n 0, 1, [], 0, 0),
  (171, .getfield 13, 3, [], 0, 0),
  (174, .bipush 7, 2, [], 7, 0),
  (176, .iload_n 2, 1, [], 0, 0),
  (177, .imul, 1, [], 0, 0),
  (178, .iload_n 1, 1, [], 0, 0),
  (179, .iconst 1, 1, [], 1, 0),
  (180, .if_icmp .ne 7, 3, [(0, 187)], 0, 0),
  (183, .iconst 4, 1, [], 4, 0),
  (184, .goto 14, 3, [(0, 198)], 0, 0),
  (187, .iload_n 1, 1, [], 0, 0),
  (188, .iconst 3, 1, [], 3, 0),
  (189, .if_icmp .ne 7, 3, [(0, 196)], 0, 0),
  (192, .iconst 5, 1, [], 5, 0),
  (193, .goto 5, 3, [(0, 198)], 0, 0),
  (196, .bipush 6, 2, [], 6, 0),
  (198, .iadd, 1, [], 0, 0),
  (199, .iconst 1, 1, [], 1, 0),
  (200, .iastore, 1, [], 0, 0),
  (201, .return_, 1, [], 0, 0)]
def bt_TX6_readLine : List bt_E := [
  (0, .aload_n 0, 1, [], 0, 0),
  (1, .invokevirtual 103, 3, [], 0, 0),
  (4, .istore_n 1, 1, [], 0, 0),
  (5, .iload_n 1, 1, [], 0, 0),
  (6, .i2l, 1, [], 0, 0),
  (7, .lconst 0, 1, [], 0, 0),
  (8, .ldc2_w 116, 3, [], 0, 6),
  (11, .invokestatic 46, 3, [], 0, 0),
  (14, .ifCond .ne 9, 3, [(0, 23)], 0, 0),
  (17, .aload_n 0, 1, [], 0, 0),
  (18, .iconst 2, 1, [], 2, 0),
  (19, .invokevirtual 84, 3, [], 0, 0),
  (22, .return_, 1, [], 0, 0),
  (23, .iload_n 1, 1, [], 0, 0),
  (24, .ifCond .ne 12, 3, [(0, 36)], 0, 0),
  (27, .aload_n 0, 1, [], 0, 0),
  (28, .getfield 107, 3, [], 0, 0),
  (31, .bipush 8, 2, [], 8, 0),
  (33, .if_icmp .eq 18, 3, [(0, 51)], 0, 0),
  (36, .iload_n 1, 1, [], 0, 0),
  (37, .bipush 6, 2, [], 6, 0),
  (39, .if_icmp .ne 17, 3, [(0, 56)], 0, 0),
  (42, .aload_n 0, 1, [], 0, 0),
  (43, .getfield 100, 3, [], 0, 0),
  (46, .bipush 6, 2, [], 6, 0),
  (48, .if_icmp .ne 8, 3, [(0, 56)], 0, 0),
  (51, .aload_n 0, 1, [], 0, 0),
  (52, .iconst 5, 1, [], 5, 0),
  (53, .invokevirtual 84, 3, [], 0, 0),
  (56, .iload_n 1, 1, [], 0, 0),
  (57, .iconst 5, 1, [], 5, 0),
  (58, .if_icmp .ne 20, 3, [(0, 78)], 0, 0),
  (61, .aload_n 0, 1, [], 0, 0),
  (62, .getfield 118, 3, [], 0, 0),
  (65, .iload_n 1, 1, [], 0, 0),
  (66, .ishr, 1, [], 0, 0),
  (67, .iconst 1, 1, [], 1, 0),
  (68, .iand, 1, [], 0, 0),
  (69, .iconst 1, 1, [], 1, 0),
  (70, .if_icmp .ne 8, 3, [(0, 78)], 0, 0),
  (73, .aload_n 0, 1, [], 0, 0),
  (74, .iconst 4, 1, [], 4, 0),
  (75, .invokevirtual 84, 3, [], 0, 0),
  (78, .aload_n 0, 1, [], 0, 0),
  (79, .dup, 1, [], 0, 0),
  (80, .getfield 118, 3, [], 0, 0),
  (83, .iconst 1, 1, [], 1, 0),
  (84, .iload_n 1, 1, [], 0, 0),
  (85, .ishl, 1, [], 0, 0),
  (86, .ior, 1, [], 0, 0),
  (87, .putfield 118, 3, [], 0, 0),
  (90, .aload_n 0, 1, [], 0, 0),
  (91, .invokevirtual 88, 3, [], 0, 0),
  (94, .aload_n 0, 1, [], 0, 0),
  (95, .getfield 54, 3, [], 0, 0),
  (98, .ifCond .le 4, 3, [(0, 102)], 0, 0),
  (101, .return_, 1, [], 0, 0),
  (102, .aload_n 0, 1, [], 0, 0),
  (103, .iload_n 1, 1, [], 0, 0),
  (104, .invokevirtual 121, 3, [], 0, 0),
  (107, .aload_n 0, 1, [], 0, 0),
  (108, .getfield 54, 3, [], 0, 0),
  (111, .ifCond .ne 16, 3, [(0, 127)], 0, 0),
  (114, .aload_n 0, 1, [], 0, 0),
  (115, .getfield 63, 3, [], 0, 0),
  (118, .iconst 3, 1, [], 3, 0),
  (119, .if_icmp .eq 8, 3, [(0, 127)], 0, 0),
  (122, .aload_n 0, 1, [], 0, 0),
  (123, .iconst 2, 1, [], 2, 0),
  (124, .invokevirtual 84, 3, [], 0, 0),
  (127, .aload_n 0, 1, [], 0, 0),
  (128, .invokevirtual 88, 3, [], 0, 0),
  (131, .return_, 1, [], 0, 0)]
def bt_TX6_text : List bt_E := [
  (0, .aload_n 0, 1, [], 0, 0),
  (1, .iconst 0, 1, [], 0, 0),
  (2, .putfield 54, 3, [], 0, 0),
  (5, .aload_n 0, 1, [], 0, 0),
  (6, .iconst 0, 1, [], 0, 0),
  (7, .putfield 66, 3, [], 0, 0),
  (10, .aload_n 0, 1, [], 0, 0),
  (11, .iconst 0, 1, [], 0, 0),
  (12, .putfield 107, 3, [], 0, 0),
  (15, .aload_n 0, 1, [], 0, 0),
  (16, .iconst 0, 1, [], 0, 0),
  (17, .putfield 100, 3, [], 0, 0),
  (20, .aload_n 0, 1, [], 0, 0),
  (21, .iconst 0, 1, [], 0, 0),
  (22, .putfield 118, 3, [], 0, 0),
  (25, .aload_n 0, 1, [], 0, 0),
  (26, .iconst (-1), 1, [], (-1), 0),
  (27, .putfield 97, 3, [], 0, 0),
  (30, .iconst 0, 1, [], 0, 0),
  (31, .istore_n 1, 1, [], 0, 0),
  (32, .iconst 0, 1, [], 0, 0),
  (33, .istore_n 2, 1, [], 0, 0),
  (34, .iload_n 2, 1, [], 0, 0),
  (35, .bipush 90, 2, [], 90, 0),
  (37, .if_icmp .ge 26, 3, [(0, 63)], 0, 0),
  (40, .aload_n 0, 1, [], 0, 0),
  (41, .getfield 13, 3, [], 0, 0),
  (44, .iload_n 2, 1, [], 0, 0),
  (45, .iconst 0, 1, [], 0, 0),
  (46, .iastore, 1, [], 0, 0),
  (47, .aload_n 0, 1, [], 0, 0),
  (48, .getfield 16, 3, [], 0, 0),
  (51, .iload_n 2, 1, [], 0, 0),
  (52, .bipush 7, 2, [], 7, 0),
  (54, .irem, 1, [], 0, 0),
  (55, .iconst 0, 1, [], 0, 0),
  (56, .iastore, 1, [], 0, 0),
  (57, .iinc 2 1, 3, [], 1, 0),
  (60, .goto (-26), 3, [(0, 34)], 0, 0),
  (63, .aload_n 0, 1, [], 0, 0),
  (64, .invokevirtual 88, 3, [], 0, 0),
  (67, .aload_n 0, 1, [], 0, 0),
  (68, .getfield 54, 3, [], 0, 0),
  (71, .ifCond .ne 20, 3, [(0, 91)], 0, 0),
  (74, .aload_n 0, 1, [], 0, 0),
  (75, .getfield 63, 3, [], 0, 0),
  (78, .ifCond .eq 13, 3, [(0, 91)], 0, 0),
  (81, .aload_n 0, 1, [], 0, 0),
  (82, .invokevirtual 124, 3, [], 0, 0),
  (85, .iinc 1 1, 3, [], 1, 0),
  (88, .goto (-21), 3, [(0, 67)], 0, 0),
  (91, .aload_n 0, 1, [], 0, 0),
  (92, .getfield 54, 3, [], 0, 0),
  (95, .ifCond .ne 20, 3, [(0, 115)], 0, 0),
  (98, .aload_n 0, 1, [], 0, 0),
  (99, .getfield 97, 3, [], 0, 0),
  (102, .aload_n 0, 1, [], 0, 0),
  (103, .getfield 107, 3, [], 0, 0),
  (106, .if_icmp .lt 9, 3, [(0, 115)], 0, 0),
  (109, .aload_n 0, 1, [], 0, 0),
  (110, .bipush 6, 2, [], 6, 0),
  (112, .invokevirtual 84, 3, [], 0, 0),
  (115, .aload_n 0, 1, [], 0, 0),
  (116, .iconst 0, 1, [], 0, 0),
  (117, .putfield 50, 3, [], 0, 0),
  (120, .aload_n 0, 1, [], 0, 0),
  (121, .aload_n 0, 1, [], 0, 0),
  (122, .getfield 54, 3, [], 0, 0),
  (125, .putfield 127, 3, [], 0, 0),
  (128, .aload_n 0, 1, [], 0, 0),
  (129, .getfield 54, 3, [], 0, 0),
  (132, .ifCond .le 11, 3, [(0, 143)], 0, 0),
  (135, .bipush (-10), 2, [], (-10), 0),
  (137, .aload_n 0, 1, [], 0, 0),
  (138, .getfield 60, 3, [], 0, 0),
  (141, .isub, 1, [], 0, 0),
  (142, .ireturn, 1, [], 0, 0),
  (143, .iconst 0, 1, [], 0, 0),
  (144, .istore_n 2, 1, [], 0, 0),
  (145, .iload_n 2, 1, [], 0, 0),
  (146, .bipush 90, 2, [], 90, 0),
  (148, .if_icmp .ge 21, 3, [(0, 169)], 0, 0),
  (151, .aload_n 0, 1, [], 0, 0),
  (152, .getfield 7, 3, [], 0, 0),
  (155, .iload_n 2, 1, [], 0, 0),
  (156, .aload_n 0, 1, [], 0, 0),
  (157, .getfield 13, 3, [], 0, 0),
  (160, .iload_n 2, 1, [], 0, 0),
  (161, .iaload, 1, [], 0, 0),
  (162, .iastore, 1, [], 0, 0),
  (163, .iinc 2 1, 3, [], 1, 0),
  (166, .goto (-21), 3, [(0, 145)], 0, 0),
  (169, .aload_n 0, 1, [], 0, 0),
  (170, .aload_n 0, 1, [], 0, 0),
  (171, .getfield 107, 3, [], 0, 0),
  (174, .putfield 130, 3, [], 0, 0),
  (177, .aload_n 0, 1, [], 0, 0),
  (178, .aload_n 0, 1, [], 0, 0),
  (179, .getfield 100, 3, [], 0, 0),
  (182, .putfield 133, 3, [], 0, 0),
  (185, .aload_n 0, 1, [], 0, 0),
  (186, .iconst 0, 1, [], 0, 0),
  (187, .putfield 136, 3, [], 0, 0),
  (190, .aload_n 0, 1, [], 0, 0),
  (191, .getfield 31, 3, [], 0, 0),
  (194, .iconst 0, 1, [], 0, 0),
  (195, .iconst 0, 1, [], 0, 0),
  (196, .bastore, 1, [], 0, 0),
  (197, .aload_n 0, 1, [], 0, 0),
  (198, .getfield 31, 3, [], 0, 0),
  (201, .iconst 1, 1, [], 1, 0),
  (202, .iconst 0, 1, [], 0, 0),
  (203, .bastore, 1, [], 0, 0),
  (204, .iload_n 1, 1, [], 0, 0),
  (205, .ireturn, 1, [], 0, 0)]
def bt_TX6_fault : List bt_E := [
  (0, .aload_n 0, 1, [], 0, 0),
  (1, .getfield 127, 3, [], 0, 0),
  (4, .ireturn, 1, [], 0, 0)]
def bt_TX6_isRoad : List bt_E := [
  (0, .iload_n 1, 1, [], 0, 0),
  (1, .i2l, 1, [], 0, 0),
  (2, .lconst 0, 1, [], 0, 0),
  (3, .aload_n 0, 1, [], 0, 0),
  (4, .getfield 130, 3, [], 0, 0),
  (7, .iconst 1, 1, [], 1, 0),
  (8, .isub, 1, [], 0, 0),
  (9, .i2l, 1, [], 0, 0),
  (10, .invokestatic 46, 3, [], 0, 0),
  (13, .ireturn, 1, [], 0, 0)]
def bt_TX6_isCar : List bt_E := [
  (0, .iload_n 1, 1, [], 0, 0),
  (1, .i2l, 1, [], 0, 0),
  (2, .lconst 0, 1, [], 0, 0),
  (3, .aload_n 0, 1, [], 0, 0),
  (4, .getfield 133, 3, [], 0, 0),
  (7, .iconst 1, 1, [], 1, 0),
  (8, .isub, 1, [], 0, 0),
  (9, .i2l, 1, [], 0, 0),
  (10, .invokestatic 46, 3, [], 0, 0),
  (13, .ireturn, 1, [], 0, 0)]
def bt_TX6_isPast : List bt_E := [
  (0, .aload_n 0, 1, [], 0, 0),
  (1, .getfield 7, 3, [], 0, 0),
  (4, .iload_n 1, 1, [], 0, 0),
  (5, .bipush 58, 2, [], 58, 0),
  (7, .iadd, 1, [], 0, 0),
  (8, .iconst 5, 1, [], 5, 0),
  (9, .iload_n 2, 1, [], 0, 0),
  (10, .imul, 1, [], 0, 0),
  (11, .iadd, 1, [], 0, 0),
  (12, .iconst 4, 1, [], 4, 0),
  (13, .iadd, 1, [], 0, 0),
  (14, .iaload, 1, [], 0, 0),
  (15, .iconst 1, 1, [], 1, 0),
  (16, .if_icmp .ne 7, 3, [(0, 23)], 0, 0),
  (19, .iconst 1, 1, [], 1, 0),
  (20, .goto 4, 3, [(0, 24)], 0, 0),
  (23, .iconst 0, 1, [], 0, 0),
  (24, .ireturn, 1, [], 0, 0)]
def bt_TX6_pastOn : List bt_E := [
  (0, .iconst 0, 1, [], 0, 0),
  (1, .istore_n 2, 1, [], 0, 0),
  (2, .iconst 0, 1, [], 0, 0),
  (3, .istore_n 3, 1, [], 0, 0),
  (4, .iload_n 3, 1, [], 0, 0),
  (5, .aload_n 0, 1, [], 0, 0),
  (6, .getfield 133, 3, [], 0, 0),
  (9, .if_icmp .ge 28, 3, [(0, 37)], 0, 0),
  (12, .iload_n 2, 1, [], 0, 0),
  (13, .aload_n 0, 1, [], 0, 0),
  (14, .iload_n 1, 1, [], 0, 0),
  (15, .iload_n 3, 1, [], 0, 0),
  (16, .invokevirtual 139, 3, [], 0, 0),
  (19, .ifCond .eq 9, 3, [(0, 28)], 0, 0),
  (22, .iconst 1, 1, [], 1, 0),
  (23, .iload_n 3, 1, [], 0, 0),
  (24, .ishl, 1, [], 0, 0),
  (25, .goto 4, 3, [(0, 29)], 0, 0),
  (28, .iconst 0, 1, [], 0, 0),
  (29, .ior, 1, [], 0, 0),
  (30, .istore_n 2, 1, [], 0, 0),
  (31, .iinc 3 1, 3, [], 1, 0),
  (34, .goto (-30), 3, [(0, 4)], 0, 0),
  (37, .iload_n 2, 1, [], 0, 0),
  (38, .ireturn, 1, [], 0, 0)]
def bt_TX6_paceOn : List bt_E := [
  (0, .aload_n 0, 1, [], 0, 0),
  (1, .getfield 7, 3, [], 0, 0),
  (4, .iload_n 1, 1, [], 0, 0),
  (5, .bipush 56, 2, [], 56, 0),
  (7, .iadd, 1, [], 0, 0),
  (8, .iaload, 1, [], 0, 0),
  (9, .iconst 5, 1, [], 5, 0),
  (10, .iadd, 1, [], 0, 0),
  (11, .ireturn, 1, [], 0, 0)]
def bt_TX6_rule : List bt_E := [
  (0, .iload_n 1, 1, [], 0, 0),
  (1, .tableswitch 89 0 6 #[43, 48, 53, 59, 67, 75, 83], 43, [(0, 90), (0, 44), (1, 49), (2, 54), (3, 60), (4, 68), (5, 76), (6, 84)], 0, 0),
  (44, .aload_n 0, 1, [], 0, 0),
  (45, .getfield 130, 3, [], 0, 0),
  (48, .ireturn, 1, [], 0, 0),
  (49, .aload_n 0, 1, [], 0, 0),
  (50, .getfield 133, 3, [], 0, 0),
  (53, .ireturn, 1, [], 0, 0),
  (54, .aload_n 0, 1, [], 0, 0),
  (55, .iconst 0, 1, [], 0, 0),
  (56, .invokevirtual 143, 3, [], 0, 0),
  (59, .ireturn, 1, [], 0, 0),
  (60, .aload_n 0, 1, [], 0, 0),
  (61, .getfield 7, 3, [], 0, 0),
  (64, .bipush 57, 2, [], 57, 0),
  (66, .iaload, 1, [], 0, 0),
  (67, .ireturn, 1, [], 0, 0),
  (68, .aload_n 0, 1, [], 0, 0),
  (69, .getfield 7, 3, [], 0, 0),
  (72, .bipush 88, 2, [], 88, 0),
  (74, .iaload, 1, [], 0, 0),
  (75, .ireturn, 1, [], 0, 0),
  (76, .aload_n 0, 1, [], 0, 0),
  (77, .getfield 7, 3, [], 0, 0),
  (80, .bipush 89, 2, [], 89, 0),
  (82, .iaload, 1, [], 0, 0),
  (83, .ireturn, 1, [], 0, 0),
  (84, .aload_n 0, 1, [], 0, 0),
  (85, .iconst 0, 1, [], 0, 0),
  (86, .invokevirtual 146, 3, [], 0, 0),
  (89, .ireturn, 1, [], 0, 0),
  (90, .iconst (-1), 1, [], (-1), 0),
  (91, .ireturn, 1, [], 0, 0)]
def bt_TX6_road : List bt_E := [
  (0, .aload_n 0, 1, [], 0, 0),
  (1, .iload_n 1, 1, [], 0, 0),
  (2, .invokevirtual 149, 3, [], 0, 0),
  (5, .ifCond .eq 41, 3, [(0, 46)], 0, 0),
  (8, .iload_n 2, 1, [], 0, 0),
  (9, .i2l, 1, [], 0, 0),
  (10, .lconst 0, 1, [], 0, 0),
  (11, .ldc2_w 116, 3, [], 0, 6),
  (14, .invokestatic 46, 3, [], 0, 0),
  (17, .ifCond .eq 29, 3, [(0, 46)], 0, 0),
  (20, .aload_n 0, 1, [], 0, 0),
  (21, .getfield 7, 3, [], 0, 0),
  (24, .bipush 7, 2, [], 7, 0),
  (26, .iload_n 1, 1, [], 0, 0),
  (27, .imul, 1, [], 0, 0),
  (28, .iload_n 2, 1, [], 0, 0),
  (29, .iadd, 1, [], 0, 0),
  (30, .iaload, 1, [], 0, 0),
  (31, .iload_n 2, 1, [], 0, 0),
  (32, .iconst 3, 1, [], 3, 0),
  (33, .if_icmp .ne 8, 3, [(0, 41)], 0, 0),
  (36, .bipush 10, 2, [], 10, 0),
  (38, .goto 4, 3, [(0, 42)], 0, 0),
  (41, .iconst 0, 1, [], 0, 0),
  (42, .iadd, 1, [], 0, 0),
  (43, .goto 4, 3, [(0, 47)], 0, 0),
  (46, .iconst (-1), 1, [], (-1), 0),
  (47, .ireturn, 1, [], 0, 0)]
def bt_TX6_aheadOf : List bt_E := [
  (0, .iconst 0, 1, [], 0, 0),
  (1, .istore_n 3, 1, [], 0, 0),
  (2, .iconst 0, 1, [], 0, 0),
  (3, .istore 4, 2, [], 0, 0),
  (5, .iload 4, 2, [], 0, 0),
  (7, .iload_n 2, 1, [], 0, 0),
  (8, .if_icmp .ge 27, 3, [(0, 35)], 0, 0),
  (11, .iload_n 3, 1, [], 0, 0),
  (12, .aload_n 0, 1, [], 0, 0),
  (13, .iload_n 1, 1, [], 0, 0),
  (14, .iload 4, 2, [], 0, 0),
  (16, .invokevirtual 139, 3, [], 0, 0),
  (19, .ifCond .eq 7, 3, [(0, 26)], 0, 0),
  (22, .iconst 0, 1, [], 0, 0),
  (23, .goto 4, 3, [(0, 27)], 0, 0),
  (26, .iconst 1, 1, [], 1, 0),
  (27, .iadd, 1, [], 0, 0),
  (28, .istore_n 3, 1, [], 0, 0),
  (29, .iinc 4 1, 3, [], 1, 0),
  (32, .goto (-27), 3, [(0, 5)], 0, 0),
  (35, .aload_n 0, 1, [], 0, 0),
  (36, .iload_n 1, 1, [], 0, 0),
  (37, .iload_n 2, 1, [], 0, 0),
  (38, .invokevirtual 139, 3, [], 0, 0),
  (41, .ifCond .eq 7, 3, [(0, 48)], 0, 0),
  (44, .iconst 0, 1, [], 0, 0),
  (45, .goto 4, 3, [(0, 49)], 0, 0),
  (48, .iload_n 3, 1, [], 0, 0),
  (49, .ireturn, 1, [], 0, 0)]
def bt_TX6_car : List bt_E := [
  (0, .aload_n 0, 1, [], 0, 0),
  (1, .iload_n 1, 1, [], 0, 0),
  (2, .invokevirtual 153, 3, [], 0, 0),
  (5, .ifCond .eq 15, 3, [(0, 20)], 0, 0),
  (8, .iload_n 2, 1, [], 0, 0),
  (9, .i2l, 1, [], 0, 0),
  (10, .lconst 0, 1, [], 0, 0),
  (11, .ldc2_w 156, 3, [], 0, 5),
  (14, .invokestatic 46, 3, [], 0, 0),
  (17, .ifCond .ne 5, 3, [(0, 22)], 0, 0),
  (20, .iconst (-1), 1, [], (-1), 0),
  (21, .ireturn, 1, [], 0, 0),
  (22, .iload_n 2, 1, [], 0, 0),
  (23, .iconst 5, 1, [], 5, 0),
  (24, .if_icmp .ne 12, 3, [(0, 36)], 0, 0),
  (27, .aload_n 0, 1, [], 0, 0),
  (28, .iconst 0, 1, [], 0, 0),
  (29, .iload_n 1, 1, [], 0, 0),
  (30, .invokevirtual 158, 3, [], 0, 0),
  (33, .goto 16, 3, [(0, 49)], 0, 0),
  (36, .aload_n 0, 1, [], 0, 0),
  (37, .getfield 7, 3, [], 0, 0),
  (40, .bipush 58, 2, [], 58, 0),
  (42, .iconst 5, 1, [], 5, 0),
  (43, .iload_n 1, 1, [], 0, 0),
  (44, .imul, 1, [], 0, 0),
  (45, .iadd, 1, [], 0, 0),
  (46, .iload_n 2, 1, [], 0, 0),
  (47, .iadd, 1, [], 0, 0),
  (48, .iaload, 1, [], 0, 0),
  (49, .ireturn, 1, [], 0, 0)]
def bt_TX6_useOn : List bt_E := [
  (0, .iload_n 1, 1, [], 0, 0),
  (1, .bipush 7, 2, [], 7, 0),
  (3, .iload_n 2, 1, [], 0, 0),
  (4, .imul, 1, [], 0, 0),
  (5, .iadd, 1, [], 0, 0),
  (6, .istore 4, 2, [], 0, 0),
  (8, .aload_n 0, 1, [], 0, 0),
  (9, .getfield 7, 3, [], 0, 0),
  (12, .iload 4, 2, [], 0, 0),
  (14, .bipush 6, 2, [], 6, 0),
  (16, .iadd, 1, [], 0, 0),
  (17, .iaload, 1, [], 0, 0),
  (18, .iconst 1, 1, [], 1, 0),
  (19, .if_icmp .ne 6, 3, [(0, 25)], 0, 0),
  (22, .bipush 9, 2, [], 9, 0),
  (24, .ireturn, 1, [], 0, 0),
  (25, .aload_n 0, 1, [], 0, 0),
  (26, .getfield 7, 3, [], 0, 0),
  (29, .iload 4, 2, [], 0, 0),
  (31, .iconst 1, 1, [], 1, 0),
  (32, .iadd, 1, [], 0, 0),
  (33, .iaload, 1, [], 0, 0),
  (34, .aload_n 0, 1, [], 0, 0),
  (35, .getfield 7, 3, [], 0, 0),
  (38, .iload 4, 2, [], 0, 0),
  (40, .iconst 4, 1, [], 4, 0),
  (41, .iadd, 1, [], 0, 0),
  (42, .iaload, 1, [], 0, 0),
  (43, .isub, 1, [], 0, 0),
  (44, .istore 5, 2, [], 0, 0),
  (46, .iload 5, 2, [], 0, 0),
  (48, .ifCond .ge 7, 3, [(0, 55)], 0, 0),
  (51, .iconst 0, 1, [], 0, 0),
  (52, .goto 5, 3, [(0, 57)], 0, 0),
  (55, .iload 5, 2, [], 0, 0),
  (57, .istore 5, 2, [], 0, 0),
  (59, .iload_n 3, 1, [], 0, 0),
  (60, .iload 5, 2, [], 0, 0),
  (62, .if_icmp .ge 7, 3, [(0, 69)], 0, 0),
  (65, .iload_n 3, 1, [], 0, 0),
  (66, .goto 5, 3, [(0, 71)], 0, 0),
  (69, .iload 5, 2, [], 0, 0),
  (71, .ireturn, 1, [], 0, 0)]
def bt_TX6_use : List bt_E := [
  (0, .aload_n 0, 1, [], 0, 0),
  (1, .iload_n 1, 1, [], 0, 0),
  (2, .invokevirtual 149, 3, [], 0, 0),
  (5, .ifCond .eq 25, 3, [(0, 30)], 0, 0),
  (8, .iload_n 2, 1, [], 0, 0),
  (9, .i2l, 1, [], 0, 0),
  (10, .lconst 0, 1, [], 0, 0),
  (11, .ldc2_w 161, 3, [], 0, 9),
  (14, .invokestatic 46, 3, [], 0, 0),
  (17, .ifCond .eq 13, 3, [(0, 30)], 0, 0),
  (20, .aload_n 0, 1, [], 0, 0),
  (21, .iconst 0, 1, [], 0, 0),
  (22, .iload_n 1, 1, [], 0, 0),
  (23, .iload_n 2, 1, [], 0, 0),
  (24, .invokevirtual 163, 3, [], 0, 0),
  (27, .goto 4, 3, [(0, 31)], 0, 0),
  (30, .iconst (-1), 1, [], (-1), 0),
  (31, .ireturn, 1, [], 0, 0)]
def bt_TX6_sets : List bt_E := [
  (0, .iload_n 1, 1, [], 0, 0),
  (1, .ifCond .ne 5, 3, [(0, 6)], 0, 0),
  (4, .iconst (-1), 1, [], (-1), 0),
  (5, .ireturn, 1, [], 0, 0),
  (6, .aload_n 0, 1, [], 0, 0),
  (7, .getfield 7, 3, [], 0, 0),
  (10, .iload_n 2, 1, [], 0, 0),
  (11, .iaload, 1, [], 0, 0),
  (12, .istore 4, 2, [], 0, 0),
  (14, .aload_n 0, 1, [], 0, 0),
  (15, .getfield 7, 3, [], 0, 0),
  (18, .iload_n 2, 1, [], 0, 0),
  (19, .iload_n 3, 1, [], 0, 0),
  (20, .iastore, 1, [], 0, 0),
  (21, .iload 4, 2, [], 0, 0),
  (23, .ireturn, 1, [], 0, 0)]
def bt_TX6_gap : List bt_E := [
  (0, .aload_n 0, 1, [], 0, 0),
  (1, .aload_n 0, 1, [], 0, 0),
  (2, .iload_n 1, 1, [], 0, 0),
  (3, .invokevirtual 149, 3, [], 0, 0),
  (6, .ifCond .eq 19, 3, [(0, 25)], 0, 0),
  (9, .iload_n 2, 1, [], 0, 0),
  (10, .i2l, 1, [], 0, 0),
  (11, .lconst 0, 1, [], 0, 0),
  (12, .ldc2_w 161, 3, [], 0, 9),
  (15, .invokestatic 46, 3, [], 0, 0),
  (18, .ifCond .eq 7, 3, [(0, 25)], 0, 0),
  (21, .iconst 1, 1, [], 1, 0),
  (22, .goto 4, 3, [(0, 26)], 0, 0),
  (25, .iconst 0, 1, [], 0, 0),
  (26, .bipush 7, 2, [], 7, 0),
  (28, .iload_n 1, 1, [], 0, 0),
  (29, .imul, 1, [], 0, 0),
  (30, .iconst 2, 1, [], 2, 0),
  (31, .iadd, 1, [], 0, 0),
  (32, .iload_n 2, 1, [], 0, 0),
  (33, .invokevirtual 167, 3, [], 0, 0),
  (36, .ireturn, 1, [], 0, 0)]
def bt_TX6_sight : List bt_E := [
  (0, .aload_n 0, 1, [], 0, 0),
  (1, .aload_n 0, 1, [], 0, 0),
  (2, .iload_n 1, 1, [], 0, 0),
  (3, .invokevirtual 149, 3, [], 0, 0),
  (6, .ifCond .eq 19, 3, [(0, 25)], 0, 0),
  (9, .iload_n 2, 1, [], 0, 0),
  (10, .i2l, 1, [], 0, 0),
  (11, .lconst 0, 1, [], 0, 0),
  (12, .ldc2_w 161, 3, [], 0, 9),
  (15, .invokestatic 46, 3, [], 0, 0),
  (18, .ifCond .eq 7, 3, [(0, 25)], 0, 0),
  (21, .iconst 1, 1, [], 1, 0),
  (22, .goto 4, 3, [(0, 26)], 0, 0),
  (25, .iconst 0, 1, [], 0, 0),
  (26, .bipush 7, 2, [], 7, 0),
  (28, .iload_n 1, 1, [], 0, 0),
  (29, .imul, 1, [], 0, 0),
  (30, .iconst 1, 1, [], 1, 0),
  (31, .iadd, 1, [], 0, 0),
  (32, .iload_n 2, 1, [], 0, 0),
  (33, .invokevirtual 167, 3, [], 0, 0),
  (36, .ireturn, 1, [], 0, 0)]
def bt_TX6_odd : List bt_E := [
  (0, .aload_n 0, 1, [], 0, 0),
  (1, .iload_n 1, 1, [], 0, 0),
  (2, .invokevirtual 149, 3, [], 0, 0),
  (5, .ifCond .eq 36, 3, [(0, 41)], 0, 0),
  (8, .iload_n 2, 1, [], 0, 0),
  (9, .i2l, 1, [], 0, 0),
  (10, .lconst 0, 1, [], 0, 0),
  (11, .ldc2_w 171, 3, [], 0, 10),
  (14, .invokestatic 46, 3, [], 0, 0),
  (17, .ifCond .eq 24, 3, [(0, 41)], 0, 0),
  (20, .bipush 10, 2, [], 10, 0),
  (22, .aload_n 0, 1, [], 0, 0),
  (23, .iconst 1, 1, [], 1, 0),
  (24, .bipush 7, 2, [], 7, 0),
  (26, .iload_n 1, 1, [], 0, 0),
  (27, .imul, 1, [], 0, 0),
  (28, .iconst 3, 1, [], 3, 0),
  (29, .iadd, 1, [], 0, 0),
  (30, .iload_n 2, 1, [], 0, 0),
  (31, .bipush 10, 2, [], 10, 0),
  (33, .isub, 1, [], 0, 0),
  (34, .invokevirtual 167, 3, [], 0, 0),
  (37, .iadd, 1, [], 0, 0),
  (38, .goto 4, 3, [(0, 42)], 0, 0),
  (41, .iconst (-1), 1, [], (-1), 0),
  (42, .ireturn, 1, [], 0, 0)]
def bt_TX6_build : List bt_E := [
  (0, .iload_n 2, 1, [], 0, 0),
  (1, .ifCond .ne 7, 3, [(0, 8)], 0, 0),
  (4, .iconst 5, 1, [], 5, 0),
  (5, .goto 14, 3, [(0, 19)], 0, 0),
  (8, .iload_n 2, 1, [], 0, 0),
  (9, .iconst 1, 1, [], 1, 0),
  (10, .if_icmp .ne 8, 3, [(0, 18)], 0, 0),
  (13, .bipush 6, 2, [], 6, 0),
  (15, .goto 4, 3, [(0, 19)], 0, 0),
  (18, .iconst 4, 1, [], 4, 0),
  (19, .istore 4, 2, [], 0, 0),
  (21, .aload_n 0, 1, [], 0, 0),
  (22, .aload_n 0, 1, [], 0, 0),
  (23, .iload_n 1, 1, [], 0, 0),
  (24, .invokevirtual 149, 3, [], 0, 0),
  (27, .ifCond .eq 19, 3, [(0, 46)], 0, 0),
  (30, .iload_n 2, 1, [], 0, 0),
  (31, .i2l, 1, [], 0, 0),
  (32, .lconst 0, 1, [], 0, 0),
  (33, .ldc2_w 173, 3, [], 0, 2),
  (36, .invokestatic 46, 3, [], 0, 0),
  (39, .ifCond .eq 7, 3, [(0, 46)], 0, 0),
  (42, .iconst 1, 1, [], 1, 0),
  (43, .goto 4, 3, [(0, 47)], 0, 0),
  (46, .iconst 0, 1, [], 0, 0),
  (47, .bipush 7, 2, [], 7, 0),
  (49, .iload_n 1, 1, [], 0, 0),
  (50, .imul, 1, [], 0, 0),
  (51, .iload 4, 2, [], 0, 0),
  (53, .iadd, 1, [], 0, 0),
  (54, .iload_n 3, 1, [], 0, 0),
  (55, .ifCond .eq 7, 3, [(0, 62)], 0, 0),
  (58, .iconst 1, 1, [], 1, 0),
  (59, .goto 4, 3, [(0, 63)], 0, 0),
  (62, .iconst 0, 1, [], 0, 0),
  (63, .invokevirtual 167, 3, [], 0, 0),
  (66, .ireturn, 1, [], 0, 0)]
def bt_TX6_polite : List bt_E := [
  (0, .aload_n 0, 1, [], 0, 0),
  (1, .iload_n 1, 1, [], 0, 0),
  (2, .i2l, 1, [], 0, 0),
  (3, .lconst 0, 1, [], 0, 0),
  (4, .ldc2_w 116, 3, [], 0, 6),
  (7, .invokestatic 46, 3, [], 0, 0),
  (10, .bipush 57, 2, [], 57, 0),
  (12, .iload_n 1, 1, [], 0, 0),
  (13, .invokevirtual 167, 3, [], 0, 0),
  (16, .ireturn, 1, [], 0, 0)]
def bt_TX6_teach : List bt_E := [
  (0, .aload_n 0, 1, [], 0, 0),
  (1, .iload_n 1, 1, [], 0, 0),
  (2, .invokevirtual 153, 3, [], 0, 0),
  (5, .ifCond .eq 27, 3, [(0, 32)], 0, 0),
  (8, .iload_n 2, 1, [], 0, 0),
  (9, .i2l, 1, [], 0, 0),
  (10, .lconst 0, 1, [], 0, 0),
  (11, .ldc2_w 175, 3, [], 0, 4),
  (14, .invokestatic 46, 3, [], 0, 0),
  (17, .ifCond .eq 15, 3, [(0, 32)], 0, 0),
  (20, .iload_n 3, 1, [], 0, 0),
  (21, .i2l, 1, [], 0, 0),
  (22, .lconst 1, 1, [], 0, 1),
  (23, .ldc2_w 161, 3, [], 0, 9),
  (26, .invokestatic 46, 3, [], 0, 0),
  (29, .ifCond .ne 5, 3, [(0, 34)], 0, 0),
  (32, .iconst (-1), 1, [], (-1), 0),
  (33, .ireturn, 1, [], 0, 0),
  (34, .aload_n 0, 1, [], 0, 0),
  (35, .getfield 7, 3, [], 0, 0),
  (38, .bipush 58, 2, [], 58, 0),
  (40, .iconst 5, 1, [], 5, 0),
  (41, .iload_n 1, 1, [], 0, 0),
  (42, .imul, 1, [], 0, 0),
  (43, .iadd, 1, [], 0, 0),
  (44, .iconst 1, 1, [], 1, 0),
  (45, .iadd, 1, [], 0, 0),
  (46, .iload_n 3, 1, [], 0, 0),
  (47, .iastore, 1, [], 0, 0),
  (48, .aload_n 0, 1, [], 0, 0),
  (49, .iconst 1, 1, [], 1, 0),
  (50, .bipush 58, 2, [], 58, 0),
  (52, .iconst 5, 1, [], 5, 0),
  (53, .iload_n 1, 1, [], 0, 0),
  (54, .imul, 1, [], 0, 0),
  (55, .iadd, 1, [], 0, 0),
  (56, .iload_n 2, 1, [], 0, 0),
  (57, .invokevirtual 167, 3, [], 0, 0),
  (60, .ireturn, 1, [], 0, 0)]
def bt_TX6_isEnough : List bt_E := [
  (0, .iload_n 1, 1, [], 0, 0),
  (1, .ifCond .eq 13, 3, [(0, 14)], 0, 0),
  (4, .iload_n 1, 1, [], 0, 0),
  (5, .iconst 2, 1, [], 2, 0),
  (6, .if_icmp .eq 10, 3, [(0, 16)], 0, 0),
  (9, .iload_n 3, 1, [], 0, 0),
  (10, .iconst 1, 1, [], 1, 0),
  (11, .if_icmp .le 5, 3, [(0, 16)], 0, 0),
  (14, .iconst 0, 1, [], 0, 0),
  (15, .ireturn, 1, [], 0, 0),
  (16, .iload 4, 2, [], 0, 0),
  (18, .iload_n 2, 1, [], 0, 0),
  (19, .iload_n 1, 1, [], 0, 0),
  (20, .iconst 2, 1, [], 2, 0),
  (21, .if_icmp .ne 7, 3, [(0, 28)], 0, 0),
  (24, .iload_n 3, 1, [], 0, 0),
  (25, .goto 13, 3, [(0, 38)], 0, 0),
  (28, .iload_n 1, 1, [], 0, 0),
  (29, .iconst 4, 1, [], 4, 0),
  (30, .if_icmp .ne 7, 3, [(0, 37)], 0, 0),
  (33, .iconst 2, 1, [], 2, 0),
  (34, .goto 4, 3, [(0, 38)], 0, 0),
  (37, .iconst 1, 1, [], 1, 0),
  (38, .imul, 1, [], 0, 0),
  (39, .if_icmp .lt 7, 3, [(0, 46)], 0, 0),
  (42, .iconst 1, 1, [], 1, 0),
  (43, .goto 4, 3, [(0, 47)], 0, 0),
  (46, .iconst 0, 1, [], 0, 0),
  (47, .ireturn, 1, [], 0, 0)]
def bt_TX6_passOn : List bt_E := [
  (0, .iconst 0, 1, [], 0, 0),
  (1, .istore_n 3, 1, [], 0, 0),
  (2, .iconst 0, 1, [], 0, 0),
  (3, .istore 4, 2, [], 0, 0),
  (5, .iload 4, 2, [], 0, 0),
  (7, .aload_n 0, 1, [], 0, 0),
  (8, .getfield 133, 3, [], 0, 0),
  (11, .if_icmp .ge 130, 3, [(0, 141)], 0, 0),
  (14, .iload_n 1, 1, [], 0, 0),
  (15, .bipush 58, 2, [], 58, 0),
  (17, .iadd, 1, [], 0, 0),
  (18, .iconst 5, 1, [], 5, 0),
  (19, .iload 4, 2, [], 0, 0),
  (21, .imul, 1, [], 0, 0),
  (22, .iadd, 1, [], 0, 0),
  (23, .istore 5, 2, [], 0, 0),
  (25, .aload_n 0, 1, [], 0, 0),
  (26, .iload_n 1, 1, [], 0, 0),
  (27, .iload 4, 2, [], 0, 0),
  (29, .invokevirtual 158, 3, [], 0, 0),
  (32, .iconst 1, 1, [], 1, 0),
  (33, .iadd, 1, [], 0, 0),
  (34, .istore 6, 2, [], 0, 0),
  (36, .aload_n 0, 1, [], 0, 0),
  (37, .getfield 7, 3, [], 0, 0),
  (40, .iload 5, 2, [], 0, 0),
  (42, .iaload, 1, [], 0, 0),
  (43, .iconst 3, 1, [], 3, 0),
  (44, .if_icmp .ne 30, 3, [(0, 74)], 0, 0),
  (47, .iload 6, 2, [], 0, 0),
  (49, .iconst 1, 1, [], 1, 0),
  (50, .if_icmp .ne 24, 3, [(0, 74)], 0, 0),
  (53, .iload 4, 2, [], 0, 0),
  (55, .ifCond .le 19, 3, [(0, 74)], 0, 0),
  (58, .iload_n 3, 1, [], 0, 0),
  (59, .iload 4, 2, [], 0, 0),
  (61, .iconst 1, 1, [], 1, 0),
  (62, .isub, 1, [], 0, 0),
  (63, .ishr, 1, [], 0, 0),
  (64, .iconst 1, 1, [], 1, 0),
  (65, .iand, 1, [], 0, 0),
  (66, .iconst 1, 1, [], 1, 0),
  (67, .if_icmp .ne 7, 3, [(0, 74)], 0, 0),
  (70, .iconst 1, 1, [], 1, 0),
  (71, .goto 4, 3, [(0, 75)], 0, 0),
  (74, .iconst 0, 1, [], 0, 0),
  (75, .istore 7, 2, [], 0, 0),
  (77, .aload_n 0, 1, [], 0, 0),
  (78, .iload_n 1, 1, [], 0, 0),
  (79, .iload 4, 2, [], 0, 0),
  (81, .invokevirtual 139, 3, [], 0, 0),
  (84, .ifCond .ne 51, 3, [(0, 135)], 0, 0),
  (87, .iload 7, 2, [], 0, 0),
  (89, .ifCond .ne 29, 3, [(0, 118)], 0, 0),
  (92, .aload_n 0, 1, [], 0, 0),
  (93, .aload_n 0, 1, [], 0, 0),
  (94, .getfield 7, 3, [], 0, 0),
  (97, .iload 5, 2, [], 0, 0),
  (99, .iaload, 1, [], 0, 0),
  (100, .aload_n 0, 1, [], 0, 0),
  (101, .getfield 7, 3, [], 0, 0),
  (104, .iload 5, 2, [], 0, 0),
  (106, .iconst 1, 1, [], 1, 0),
  (107, .iadd, 1, [], 0, 0),
  (108, .iaload, 1, [], 0, 0),
  (109, .iload 6, 2, [], 0, 0),
  (111, .iload_n 2, 1, [], 0, 0),
  (112, .invokevirtual 177, 3, [], 0, 0),
  (115, .ifCond .eq 20, 3, [(0, 135)], 0, 0),
  (118, .aload_n 0, 1, [], 0, 0),
  (119, .getfield 7, 3, [], 0, 0),
  (122, .iload 5, 2, [], 0, 0),
  (124, .iconst 4, 1, [], 4, 0),
  (125, .iadd, 1, [], 0, 0),
  (126, .iconst 1, 1, [], 1, 0),
  (127, .iastore, 1, [], 0, 0),
  (128, .iload_n 3, 1, [], 0, 0),
  (129, .iconst 1, 1, [], 1, 0),
  (130, .iload 4, 2, [], 0, 0),
  (132, .ishl, 1, [], 0, 0),
  (133, .ior, 1, [], 0, 0),
  (134, .istore_n 3, 1, [], 0, 0),
  (135, .iinc 4 1, 3, [], 1, 0),
  (138, .goto (-133), 3, [(0, 5)], 0, 0),
  (141, .iload_n 3, 1, [], 0, 0),
  (142, .ireturn, 1, [], 0, 0)]
def bt_TX6_bitsOf : List bt_E := [
  (0, .iconst 0, 1, [], 0, 0),
  (1, .istore_n 1, 1, [], 0, 0),
  (2, .iconst 0, 1, [], 0, 0),
  (3, .istore_n 2, 1, [], 0, 0),
  (4, .iload_n 2, 1, [], 0, 0),
  (5, .bipush 8, 2, [], 8, 0),
  (7, .if_icmp .ge 17, 3, [(0, 24)], 0, 0),
  (10, .iload_n 1, 1, [], 0, 0),
  (11, .iload_n 0, 1, [], 0, 0),
  (12, .iload_n 2, 1, [], 0, 0),
  (13, .ishr, 1, [], 0, 0),
  (14, .iconst 1, 1, [], 1, 0),
  (15, .iand, 1, [], 0, 0),
  (16, .iadd, 1, [], 0, 0),
  (17, .istore_n 1, 1, [], 0, 0),
  (18, .iinc 2 1, 3, [], 1, 0),
  (21, .goto (-17), 3, [(0, 4)], 0, 0),
  (24, .iload_n 1, 1, [], 0, 0),
  (25, .ireturn, 1, [], 0, 0)]
def bt_TX6_driveOn : List bt_E := [
  (0, .aload_n 0, 1, [], 0, 0),
  (1, .getfield 7, 3, [], 0, 0),
  (4, .iload_n 1, 1, [], 0, 0),
  (5, .bipush 88, 2, [], 88, 0),
  (7, .iadd, 1, [], 0, 0),
  (8, .iaload, 1, [], 0, 0),
  (9, .istore_n 3, 1, [], 0, 0),
  (10, .aload_n 0, 1, [], 0, 0),
  (11, .getfield 7, 3, [], 0, 0),
  (14, .iload_n 1, 1, [], 0, 0),
  (15, .bipush 7, 2, [], 7, 0),
  (17, .iload_n 3, 1, [], 0, 0),
  (18, .imul, 1, [], 0, 0),
  (19, .iadd, 1, [], 0, 0),
  (20, .iaload, 1, [], 0, 0),
  (21, .istore 4, 2, [], 0, 0),
  (23, .iconst 1, 1, [], 1, 0),
  (24, .aload_n 0, 1, [], 0, 0),
  (25, .getfield 133, 3, [], 0, 0),
  (28, .ishl, 1, [], 0, 0),
  (29, .iconst 1, 1, [], 1, 0),
  (30, .isub, 1, [], 0, 0),
  (31, .aload_n 0, 1, [], 0, 0),
  (32, .iload_n 1, 1, [], 0, 0),
  (33, .invokevirtual 146, 3, [], 0, 0),
  (36, .iconst (-1), 1, [], (-1), 0),
  (37, .ixor, 1, [], 0, 0),
  (38, .iand, 1, [], 0, 0),
  (39, .istore 5, 2, [], 0, 0),
  (41, .iload 5, 2, [], 0, 0),
  (43, .istore 6, 2, [], 0, 0),
  (45, .aload_n 0, 1, [], 0, 0),
  (46, .getfield 7, 3, [], 0, 0),
  (49, .iload_n 1, 1, [], 0, 0),
  (50, .bipush 57, 2, [], 57, 0),
  (52, .iadd, 1, [], 0, 0),
  (53, .iaload, 1, [], 0, 0),
  (54, .istore 7, 2, [], 0, 0),
  (56, .aload_n 0, 1, [], 0, 0),
  (57, .getfield 7, 3, [], 0, 0),
  (60, .iload_n 1, 1, [], 0, 0),
  (61, .bipush 7, 2, [], 7, 0),
  (63, .iload_n 3, 1, [], 0, 0),
  (64, .imul, 1, [], 0, 0),
  (65, .iadd, 1, [], 0, 0),
  (66, .iconst 5, 1, [], 5, 0),
  (67, .iadd, 1, [], 0, 0),
  (68, .iaload, 1, [], 0, 0),
  (69, .iconst 1, 1, [], 1, 0),
  (70, .if_icmp .ne 56, 3, [(0, 126)], 0, 0),
  (73, .iload 7, 2, [], 0, 0),
  (75, .ifCond .le 51, 3, [(0, 126)], 0, 0),
  (78, .iload 5, 2, [], 0, 0),
  (80, .invokestatic 181, 3, [], 0, 0),
  (83, .iload 7, 2, [], 0, 0),
  (85, .if_icmp .lt 41, 3, [(0, 126)], 0, 0),
  (88, .iconst 0, 1, [], 0, 0),
  (89, .istore 8, 2, [], 0, 0),
  (91, .iload 8, 2, [], 0, 0),
  (93, .aload_n 0, 1, [], 0, 0),
  (94, .getfield 133, 3, [], 0, 0),
  (97, .if_icmp .ge 26, 3, [(0, 123)], 0, 0),
  (100, .aload_n 0, 1, [], 0, 0),
  (101, .getfield 7, 3, [], 0, 0),
  (104, .iload_n 1, 1, [], 0, 0),
  (105, .bipush 58, 2, [], 58, 0),
  (107, .iadd, 1, [], 0, 0),
  (108, .iconst 5, 1, [], 5, 0),
  (109, .iload 8, 2, [], 0, 0),
  (111, .imul, 1, [], 0, 0),
  (112, .iadd, 1, [], 0, 0),
  (113, .iconst 4, 1, [], 4, 0),
  (114, .iadd, 1, [], 0, 0),
  (115, .iconst 1, 1, [], 1, 0),
  (116, .iastore, 1, [], 0, 0),
  (117, .iinc 8 1, 3, [], 1, 0),
  (120, .goto (-29), 3, [(0, 91)], 0, 0),
  (123, .goto 17, 3, [(0, 140)], 0, 0),
  (126, .aload_n 0, 1, [], 0, 0),
  (127, .iload_n 1, 1, [], 0, 0),
  (128, .aload_n 0, 1, [], 0, 0),
  (129, .iload_n 1, 1, [], 0, 0),
  (130, .iload_n 3, 1, [], 0, 0),
  (131, .iload_n 2, 1, [], 0, 0),
  (132, .invokevirtual 163, 3, [], 0, 0),
  (135, .invokevirtual 184, 3, [], 0, 0),
  (138, .istore 6, 2, [], 0, 0),
  (140, .iconst 0, 1, [], 0, 0),
  (141, .istore 8, 2, [], 0, 0),
  (143, .iload 8, 2, [], 0, 0),
  (145, .aload_n 0, 1, [], 0, 0),
  (146, .getfield 133, 3, [], 0, 0),
  (149, .if_icmp .ge 62, 3, [(0, 211)], 0, 0),
  (152, .iload_n 1, 1, [], 0, 0),
  (153, .bipush 58, 2, [], 58, 0),
  (155, .iadd, 1, [], 0, 0),
  (156, .iconst 5, 1, [], 5, 0),
  (157, .iload 8, 2, [], 0, 0),
  (159, .imul, 1, [], 0, 0),
  (160, .iadd, 1, [], 0, 0),
  (161, .istore 9, 2, [], 0, 0),
  (163, .aload_n 0, 1, [], 0, 0),
  (164, .getfield 7, 3, [], 0, 0),
  (167, .iload 9, 2, [], 0, 0),
  (169, .iconst 3, 1, [], 3, 0),
  (170, .iadd, 1, [], 0, 0),
  (171, .dup2, 1, [], 0, 0),
  (172, .iaload, 1, [], 0, 0),
  (173, .iload 4, 2, [], 0, 0),
  (175, .aload_n 0, 1, [], 0, 0),
  (176, .iload_n 1, 1, [], 0, 0),
  (177, .iload 8, 2, [], 0, 0),
  (179, .invokevirtual 139, 3, [], 0, 0),
  (182, .ifCond .eq 15, 3, [(0, 197)], 0, 0),
  (185, .aload_n 0, 1, [], 0, 0),
  (186, .getfield 7, 3, [], 0, 0),
  (189, .iload 9, 2, [], 0, 0),
  (191, .iconst 2, 1, [], 2, 0),
  (192, .iadd, 1, [], 0, 0),
  (193, .iaload, 1, [], 0, 0),
  (194, .goto 8, 3, [(0, 202)], 0, 0),
  (197, .aload_n 0, 1, [], 0, 0),
  (198, .iload_n 1, 1, [], 0, 0),
  (199, .invokevirtual 143, 3, [], 0, 0),
  (202, .imul, 1, [], 0, 0),
  (203, .iadd, 1, [], 0, 0),
  (204, .iastore, 1, [], 0, 0),
  (205, .iinc 8 1, 3, [], 1, 0),
  (208, .goto (-65), 3, [(0, 143)], 0, 0),
  (211, .aload_n 0, 1, [], 0, 0),
  (212, .getfield 7, 3, [], 0, 0),
  (215, .iload_n 1, 1, [], 0, 0),
  (216, .bipush 89, 2, [], 89, 0),
  (218, .iadd, 1, [], 0, 0),
  (219, .dup2, 1, [], 0, 0),
  (220, .iaload, 1, [], 0, 0),
  (221, .iload 4, 2, [], 0, 0),
  (223, .aload_n 0, 1, [], 0, 0),
  (224, .iload_n 1, 1, [], 0, 0),
  (225, .invokevirtual 143, 3, [], 0, 0),
  (228, .imul, 1, [], 0, 0),
  (229, .iadd, 1, [], 0, 0),
  (230, .iastore, 1, [], 0, 0),
  (231, .aload_n 0, 1, [], 0, 0),
  (232, .getfield 7, 3, [], 0, 0),
  (235, .iload_n 1, 1, [], 0, 0),
  (236, .bipush 88, 2, [], 88, 0),
  (238, .iadd, 1, [], 0, 0),
  (239, .dup2, 1, [], 0, 0),
  (240, .iaload, 1, [], 0, 0),
  (241, .iconst 1, 1, [], 1, 0),
  (242, .iadd, 1, [], 0, 0),
  (243, .iastore, 1, [], 0, 0),
  (244, .iload 6, 2, [], 0, 0),
  (246, .ireturn, 1, [], 0, 0)]
def bt_TX6_areLeft : List bt_E := [
  (0, .aload_n 0, 1, [], 0, 0),
  (1, .getfield 7, 3, [], 0, 0),
  (4, .iload_n 1, 1, [], 0, 0),
  (5, .bipush 88, 2, [], 88, 0),
  (7, .iadd, 1, [], 0, 0),
  (8, .iaload, 1, [], 0, 0),
  (9, .aload_n 0, 1, [], 0, 0),
  (10, .getfield 130, 3, [], 0, 0),
  (13, .if_icmp .ge 7, 3, [(0, 20)], 0, 0),
  (16, .iconst 1, 1, [], 1, 0),
  (17, .goto 4, 3, [(0, 21)], 0, 0),
  (20, .iconst 0, 1, [], 0, 0),
  (21, .ireturn, 1, [], 0, 0)]
def bt_TX6_drives : List bt_E := [
  (0, .iload_n 1, 1, [], 0, 0),
  (1, .i2l, 1, [], 0, 0),
  (2, .lconst 0, 1, [], 0, 0),
  (3, .ldc2_w 161, 3, [], 0, 9),
  (6, .invokestatic 46, 3, [], 0, 0),
  (9, .ifCond .ne 5, 3, [(0, 14)], 0, 0),
  (12, .iconst (-1), 1, [], (-1), 0),
  (13, .ireturn, 1, [], 0, 0),
  (14, .aload_n 0, 1, [], 0, 0),
  (15, .iconst 0, 1, [], 0, 0),
  (16, .invokevirtual 187, 3, [], 0, 0),
  (19, .ifCond .eq 12, 3, [(0, 31)], 0, 0),
  (22, .aload_n 0, 1, [], 0, 0),
  (23, .iconst 0, 1, [], 0, 0),
  (24, .iload_n 1, 1, [], 0, 0),
  (25, .invokevirtual 190, 3, [], 0, 0),
  (28, .goto 5, 3, [(0, 33)], 0, 0),
  (31, .bipush (-2), 2, [], (-2), 0),
  (33, .ireturn, 1, [], 0, 0)]
def bt_TX6_drive : List bt_E := [
  (0, .aload_n 0, 1, [], 0, 0),
  (1, .iload_n 1, 1, [], 0, 0),
  (2, .invokevirtual 193, 3, [], 0, 0),
  (5, .ireturn, 1, [], 0, 0)]
def bt_TX6_ownGap : List bt_E := [
  (0, .aload_n 0, 1, [], 0, 0),
  (1, .getfield 7, 3, [], 0, 0),
  (4, .iload_n 1, 1, [], 0, 0),
  (5, .bipush 7, 2, [], 7, 0),
  (7, .aload_n 0, 1, [], 0, 0),
  (8, .getfield 7, 3, [], 0, 0),
  (11, .iload_n 1, 1, [], 0, 0),
  (12, .bipush 88, 2, [], 88, 0),
  (14, .iadd, 1, [], 0, 0),
  (15, .iaload, 1, [], 0, 0),
  (16, .imul, 1, [], 0, 0),
  (17, .iadd, 1, [], 0, 0),
  (18, .iconst 2, 1, [], 2, 0),
  (19, .iadd, 1, [], 0, 0),
  (20, .iaload, 1, [], 0, 0),
  (21, .ireturn, 1, [], 0, 0)]
def bt_TX6_on : List bt_E := [
  (0, .aload_n 0, 1, [], 0, 0),
  (1, .iconst 0, 1, [], 0, 0),
  (2, .invokevirtual 187, 3, [], 0, 0),
  (5, .ifCond .eq 16, 3, [(0, 21)], 0, 0),
  (8, .aload_n 0, 1, [], 0, 0),
  (9, .iconst 0, 1, [], 0, 0),
  (10, .aload_n 0, 1, [], 0, 0),
  (11, .iconst 0, 1, [], 0, 0),
  (12, .invokevirtual 196, 3, [], 0, 0),
  (15, .invokevirtual 190, 3, [], 0, 0),
  (18, .goto 5, 3, [(0, 23)], 0, 0),
  (21, .bipush (-2), 2, [], (-2), 0),
  (23, .ireturn, 1, [], 0, 0)]
def bt_TX6_copies : List bt_E := [
  (0, .iconst 0, 1, [], 0, 0),
  (1, .istore_n 3, 1, [], 0, 0),
  (2, .iload_n 3, 1, [], 0, 0),
  (3, .bipush 90, 2, [], 90, 0),
  (5, .if_icmp .ge 25, 3, [(0, 30)], 0, 0),
  (8, .aload_n 0, 1, [], 0, 0),
  (9, .getfield 7, 3, [], 0, 0),
  (12, .iload_n 2, 1, [], 0, 0),
  (13, .iload_n 3, 1, [], 0, 0),
  (14, .iadd, 1, [], 0, 0),
  (15, .aload_n 0, 1, [], 0, 0),
  (16, .getfield 7, 3, [], 0, 0),
  (19, .iload_n 1, 1, [], 0, 0),
  (20, .iload_n 3, 1, [], 0, 0),
  (21, .iadd, 1, [], 0, 0),
  (22, .iaload, 1, [], 0, 0),
  (23, .iastore, 1, [], 0, 0),
  (24, .iinc 3 1, 3, [], 1, 0),
  (27, .goto (-25), 3, [(0, 2)], 0, 0),
  (30, .return_, 1, [], 0, 0)]
def bt_TX6_triesFrom : List bt_E := [
  (0, .aload_n 0, 1, [], 0, 0),
  (1, .iload_n 1, 1, [], 0, 0),
  (2, .sipush 360, 3, [], 360, 0),
  (5, .invokevirtual 199, 3, [], 0, 0),
  (8, .aload_n 0, 1, [], 0, 0),
  (9, .sipush 360, 3, [], 360, 0),
  (12, .invokevirtual 187, 3, [], 0, 0),
  (15, .ifCond .eq 21, 3, [(0, 36)], 0, 0),
  (18, .aload_n 0, 1, [], 0, 0),
  (19, .sipush 360, 3, [], 360, 0),
  (22, .aload_n 0, 1, [], 0, 0),
  (23, .sipush 360, 3, [], 360, 0),
  (26, .invokevirtual 196, 3, [], 0, 0),
  (29, .invokevirtual 190, 3, [], 0, 0),
  (32, .pop, 1, [], 0, 0),
  (33, .goto (-25), 3, [(0, 8)], 0, 0),
  (36, .return_, 1, [], 0, 0)]
def bt_TX6_timesOn : List bt_E := [
  (0, .iconst 0, 1, [], 0, 0),
  (1, .istore_n 2, 1, [], 0, 0),
  (2, .iconst 0, 1, [], 0, 0),
  (3, .istore_n 3, 1, [], 0, 0),
  (4, .iload_n 3, 1, [], 0, 0),
  (5, .aload_n 0, 1, [], 0, 0),
  (6, .getfield 133, 3, [], 0, 0),
  (9, .if_icmp .ge 27, 3, [(0, 36)], 0, 0),
  (12, .iload_n 2, 1, [], 0, 0),
  (13, .aload_n 0, 1, [], 0, 0),
  (14, .getfield 7, 3, [], 0, 0),
  (17, .iload_n 1, 1, [], 0, 0),
  (18, .bipush 58, 2, [], 58, 0),
  (20, .iadd, 1, [], 0, 0),
  (21, .iconst 5, 1, [], 5, 0),
  (22, .iload_n 3, 1, [], 0, 0),
  (23, .imul, 1, [], 0, 0),
  (24, .iadd, 1, [], 0, 0),
  (25, .iconst 3, 1, [], 3, 0),
  (26, .iadd, 1, [], 0, 0),
  (27, .iaload, 1, [], 0, 0),
  (28, .iadd, 1, [], 0, 0),
  (29, .istore_n 2, 1, [], 0, 0),
  (30, .iinc 3 1, 3, [], 1, 0),
  (33, .goto (-29), 3, [(0, 4)], 0, 0),
  (36, .iload_n 2, 1, [], 0, 0),
  (37, .ireturn, 1, [], 0, 0)]
def bt_TX6_ahead : List bt_E := [
  (0, .aload_n 0, 1, [], 0, 0),
  (1, .iload_n 1, 1, [], 0, 0),
  (2, .invokevirtual 153, 3, [], 0, 0),
  (5, .ifCond .eq 13, 3, [(0, 18)], 0, 0),
  (8, .iload_n 2, 1, [], 0, 0),
  (9, .i2l, 1, [], 0, 0),
  (10, .lconst 0, 1, [], 0, 0),
  (11, .lconst 1, 1, [], 0, 1),
  (12, .invokestatic 46, 3, [], 0, 0),
  (15, .ifCond .ne 5, 3, [(0, 20)], 0, 0),
  (18, .iconst (-1), 1, [], (-1), 0),
  (19, .ireturn, 1, [], 0, 0),
  (20, .bipush (-4), 2, [], (-4), 0),
  (22, .istore_n 3, 1, [], 0, 0),
  (23, .aload_n 0, 1, [], 0, 0),
  (24, .iconst 0, 1, [], 0, 0),
  (25, .sipush 360, 3, [], 360, 0),
  (28, .invokevirtual 199, 3, [], 0, 0),
  (31, .aload_n 0, 1, [], 0, 0),
  (32, .sipush 360, 3, [], 360, 0),
  (35, .invokevirtual 187, 3, [], 0, 0),
  (38, .ifCond .eq 49, 3, [(0, 87)], 0, 0),
  (41, .aload_n 0, 1, [], 0, 0),
  (42, .getfield 7, 3, [], 0, 0),
  (45, .sipush 448, 3, [], 448, 0),
  (48, .iaload, 1, [], 0, 0),
  (49, .istore 4, 2, [], 0, 0),
  (51, .aload_n 0, 1, [], 0, 0),
  (52, .sipush 360, 3, [], 360, 0),
  (55, .aload_n 0, 1, [], 0, 0),
  (56, .sipush 360, 3, [], 360, 0),
  (59, .invokevirtual 196, 3, [], 0, 0),
  (62, .invokevirtual 190, 3, [], 0, 0),
  (65, .istore 5, 2, [], 0, 0),
  (67, .iload 5, 2, [], 0, 0),
  (69, .iload_n 1, 1, [], 0, 0),
  (70, .ishr, 1, [], 0, 0),
  (71, .iconst 1, 1, [], 1, 0),
  (72, .iand, 1, [], 0, 0),
  (73, .iconst 1, 1, [], 1, 0),
  (74, .if_icmp .ne 8, 3, [(0, 82)], 0, 0),
  (77, .iload 4, 2, [], 0, 0),
  (79, .goto 4, 3, [(0, 83)], 0, 0),
  (82, .iload_n 3, 1, [], 0, 0),
  (83, .istore_n 3, 1, [], 0, 0),
  (84, .goto (-53), 3, [(0, 31)], 0, 0),
  (87, .iload_n 2, 1, [], 0, 0),
  (88, .ifCond .ne 20, 3, [(0, 108)], 0, 0),
  (91, .aload_n 0, 1, [], 0, 0),
  (92, .getfield 7, 3, [], 0, 0),
  (95, .sipush 418, 3, [], 418, 0),
  (98, .iconst 5, 1, [], 5, 0),
  (99, .iload_n 1, 1, [], 0, 0),
  (100, .imul, 1, [], 0, 0),
  (101, .iadd, 1, [], 0, 0),
  (102, .iconst 3, 1, [], 3, 0),
  (103, .iadd, 1, [], 0, 0),
  (104, .iaload, 1, [], 0, 0),
  (105, .goto 4, 3, [(0, 109)], 0, 0),
  (108, .iload_n 3, 1, [], 0, 0),
  (109, .ireturn, 1, [], 0, 0)]
def bt_TX6_tail : List bt_E := [
  (0, .iload_n 1, 1, [], 0, 0),
  (1, .i2l, 1, [], 0, 0),
  (2, .lconst 0, 1, [], 0, 0),
  (3, .ldc2_w 203, 3, [], 0, 8),
  (6, .invokestatic 46, 3, [], 0, 0),
  (9, .ifCond .ne 5, 3, [(0, 14)], 0, 0),
  (12, .iconst (-1), 1, [], (-1), 0),
  (13, .ireturn, 1, [], 0, 0),
  (14, .aload_n 0, 1, [], 0, 0),
  (15, .iconst 0, 1, [], 0, 0),
  (16, .sipush 360, 3, [], 360, 0),
  (19, .invokevirtual 199, 3, [], 0, 0),
  (22, .iconst 0, 1, [], 0, 0),
  (23, .istore_n 2, 1, [], 0, 0),
  (24, .iload_n 2, 1, [], 0, 0),
  (25, .iload_n 1, 1, [], 0, 0),
  (26, .if_icmp .ge 34, 3, [(0, 60)], 0, 0),
  (29, .aload_n 0, 1, [], 0, 0),
  (30, .sipush 360, 3, [], 360, 0),
  (33, .invokevirtual 187, 3, [], 0, 0),
  (36, .ifCond .eq 24, 3, [(0, 60)], 0, 0),
  (39, .aload_n 0, 1, [], 0, 0),
  (40, .sipush 360, 3, [], 360, 0),
  (43, .aload_n 0, 1, [], 0, 0),
  (44, .sipush 360, 3, [], 360, 0),
  (47, .invokevirtual 196, 3, [], 0, 0),
  (50, .invokevirtual 190, 3, [], 0, 0),
  (53, .pop, 1, [], 0, 0),
  (54, .iinc 2 1, 3, [], 1, 0),
  (57, .goto (-33), 3, [(0, 24)], 0, 0),
  (60, .iconst 1, 1, [], 1, 0),
  (61, .aload_n 0, 1, [], 0, 0),
  (62, .getfield 133, 3, [], 0, 0),
  (65, .ishl, 1, [], 0, 0),
  (66, .iconst 1, 1, [], 1, 0),
  (67, .isub, 1, [], 0, 0),
  (68, .aload_n 0, 1, [], 0, 0),
  (69, .sipush 360, 3, [], 360, 0),
  (72, .invokevirtual 146, 3, [], 0, 0),
  (75, .iconst (-1), 1, [], (-1), 0),
  (76, .ixor, 1, [], 0, 0),
  (77, .iand, 1, [], 0, 0),
  (78, .ireturn, 1, [], 0, 0)]
def bt_TX6_milesLeft : List bt_E := [
  (0, .iconst 0, 1, [], 0, 0),
  (1, .istore_n 1, 1, [], 0, 0),
  (2, .aload_n 0, 1, [], 0, 0),
  (3, .getfield 7, 3, [], 0, 0),
  (6, .bipush 88, 2, [], 88, 0),
  (8, .iaload, 1, [], 0, 0),
  (9, .istore_n 2, 1, [], 0, 0),
  (10, .iload_n 2, 1, [], 0, 0),
  (11, .aload_n 0, 1, [], 0, 0),
  (12, .getfield 130, 3, [], 0, 0),
  (15, .if_icmp .ge 21, 3, [(0, 36)], 0, 0),
  (18, .iload_n 1, 1, [], 0, 0),
  (19, .aload_n 0, 1, [], 0, 0),
  (20, .getfield 7, 3, [], 0, 0),
  (23, .bipush 7, 2, [], 7, 0),
  (25, .iload_n 2, 1, [], 0, 0),
  (26, .imul, 1, [], 0, 0),
  (27, .iaload, 1, [], 0, 0),
  (28, .iadd, 1, [], 0, 0),
  (29, .istore_n 1, 1, [], 0, 0),
  (30, .iinc 2 1, 3, [], 1, 0),
  (33, .goto (-23), 3, [(0, 10)], 0, 0),
  (36, .iload_n 1, 1, [], 0, 0),
  (37, .ireturn, 1, [], 0, 0)]
def bt_TX6_lost : List bt_E := [
  (0, .aload_n 0, 1, [], 0, 0),
  (1, .iconst 0, 1, [], 0, 0),
  (2, .invokevirtual 205, 3, [], 0, 0),
  (5, .aload_n 0, 1, [], 0, 0),
  (6, .sipush 360, 3, [], 360, 0),
  (9, .invokevirtual 208, 3, [], 0, 0),
  (12, .aload_n 0, 1, [], 0, 0),
  (13, .iconst 0, 1, [], 0, 0),
  (14, .invokevirtual 208, 3, [], 0, 0),
  (17, .isub, 1, [], 0, 0),
  (18, .istore_n 1, 1, [], 0, 0),
  (19, .iconst 0, 1, [], 0, 0),
  (20, .istore_n 2, 1, [], 0, 0),
  (21, .iload_n 2, 1, [], 0, 0),
  (22, .aload_n 0, 1, [], 0, 0),
  (23, .getfield 133, 3, [], 0, 0),
  (26, .if_icmp .ge 30, 3, [(0, 56)], 0, 0),
  (29, .iload_n 1, 1, [], 0, 0),
  (30, .aload_n 0, 1, [], 0, 0),
  (31, .invokevirtual 211, 3, [], 0, 0),
  (34, .aload_n 0, 1, [], 0, 0),
  (35, .getfield 7, 3, [], 0, 0),
  (38, .bipush 58, 2, [], 58, 0),
  (40, .iconst 5, 1, [], 5, 0),
  (41, .iload_n 2, 1, [], 0, 0),
  (42, .imul, 1, [], 0, 0),
  (43, .iadd, 1, [], 0, 0),
  (44, .iconst 2, 1, [], 2, 0),
  (45, .iadd, 1, [], 0, 0),
  (46, .iaload, 1, [], 0, 0),
  (47, .imul, 1, [], 0, 0),
  (48, .isub, 1, [], 0, 0),
  (49, .istore_n 1, 1, [], 0, 0),
  (50, .iinc 2 1, 3, [], 1, 0),
  (53, .goto (-32), 3, [(0, 21)], 0, 0),
  (56, .iload_n 1, 1, [], 0, 0),
  (57, .ireturn, 1, [], 0, 0)]
def bt_TX6_leftMany : List bt_E := [
  (0, .aload_n 0, 1, [], 0, 0),
  (1, .getfield 130, 3, [], 0, 0),
  (4, .aload_n 0, 1, [], 0, 0),
  (5, .getfield 7, 3, [], 0, 0),
  (8, .bipush 88, 2, [], 88, 0),
  (10, .iaload, 1, [], 0, 0),
  (11, .isub, 1, [], 0, 0),
  (12, .ireturn, 1, [], 0, 0)]
def bt_TX6_triesBy : List bt_E := [
  (0, .bipush (-4), 2, [], (-4), 0),
  (2, .istore_n 3, 1, [], 0, 0),
  (3, .aload_n 0, 1, [], 0, 0),
  (4, .iconst 0, 1, [], 0, 0),
  (5, .sipush 360, 3, [], 360, 0),
  (8, .invokevirtual 199, 3, [], 0, 0),
  (11, .aload_n 0, 1, [], 0, 0),
  (12, .sipush 360, 3, [], 360, 0),
  (15, .invokevirtual 187, 3, [], 0, 0),
  (18, .ifCond .eq 83, 3, [(0, 101)], 0, 0),
  (21, .aload_n 0, 1, [], 0, 0),
  (22, .getfield 7, 3, [], 0, 0),
  (25, .sipush 448, 3, [], 448, 0),
  (28, .iaload, 1, [], 0, 0),
  (29, .istore 4, 2, [], 0, 0),
  (31, .iload_n 1, 1, [], 0, 0),
  (32, .iload 4, 2, [], 0, 0),
  (34, .aload_n 0, 1, [], 0, 0),
  (35, .getfield 7, 3, [], 0, 0),
  (38, .bipush 88, 2, [], 88, 0),
  (40, .iaload, 1, [], 0, 0),
  (41, .isub, 1, [], 0, 0),
  (42, .ishr, 1, [], 0, 0),
  (43, .iconst 1, 1, [], 1, 0),
  (44, .iand, 1, [], 0, 0),
  (45, .iconst 1, 1, [], 1, 0),
  (46, .if_icmp .ne 7, 3, [(0, 53)], 0, 0),
  (49, .iconst 1, 1, [], 1, 0),
  (50, .goto 4, 3, [(0, 54)], 0, 0),
  (53, .iconst 0, 1, [], 0, 0),
  (54, .istore 5, 2, [], 0, 0),
  (56, .aload_n 0, 1, [], 0, 0),
  (57, .sipush 360, 3, [], 360, 0),
  (60, .iload 5, 2, [], 0, 0),
  (62, .ifCond .eq 13, 3, [(0, 75)], 0, 0),
  (65, .aload_n 0, 1, [], 0, 0),
  (66, .sipush 360, 3, [], 360, 0),
  (69, .invokevirtual 196, 3, [], 0, 0),
  (72, .goto 4, 3, [(0, 76)], 0, 0),
  (75, .iconst 0, 1, [], 0, 0),
  (76, .invokevirtual 190, 3, [], 0, 0),
  (79, .istore 6, 2, [], 0, 0),
  (81, .iload 6, 2, [], 0, 0),
  (83, .iload_n 2, 1, [], 0, 0),
  (84, .ishr, 1, [], 0, 0),
  (85, .iconst 1, 1, [], 1, 0),
  (86, .iand, 1, [], 0, 0),
  (87, .iconst 1, 1, [], 1, 0),
  (88, .if_icmp .ne 8, 3, [(0, 96)], 0, 0),
  (91, .iload 4, 2, [], 0, 0),
  (93, .goto 4, 3, [(0, 97)], 0, 0),
  (96, .iload_n 3, 1, [], 0, 0),
  (97, .istore_n 3, 1, [], 0, 0),
  (98, .goto (-87), 3, [(0, 11)], 0, 0),
  (101, .iload_n 3, 1, [], 0, 0),
  (102, .ireturn, 1, [], 0, 0)]
def bt_TX6_weightOf : List bt_E := [
  (0, .lconst 1, 1, [], 0, 1),
  (1, .lstore_n 2, 1, [], 0, 0),
  (2, .iconst 0, 1, [], 0, 0),
  (3, .istore 4, 2, [], 0, 0),
  (5, .iload 4, 2, [], 0, 0),
  (7, .aload_n 0, 1, [], 0, 0),
  (8, .invokevirtual 214, 3, [], 0, 0),
  (11, .if_icmp .ge 59, 3, [(0, 70)], 0, 0),
  (14, .aload_n 0, 1, [], 0, 0),
  (15, .getfield 7, 3, [], 0, 0),
  (18, .bipush 7, 2, [], 7, 0),
  (20, .aload_n 0, 1, [], 0, 0),
  (21, .getfield 7, 3, [], 0, 0),
  (24, .bipush 88, 2, [], 88, 0),
  (26, .iaload, 1, [], 0, 0),
  (27, .iload 4, 2, [], 0, 0),
  (29, .iadd, 1, [], 0, 0),
  (30, .imul, 1, [], 0, 0),
  (31, .iconst 3, 1, [], 3, 0),
  (32, .iadd, 1, [], 0, 0),
  (33, .iaload, 1, [], 0, 0),
  (34, .bipush 10, 2, [], 10, 0),
  (36, .iadd, 1, [], 0, 0),
  (37, .istore 5, 2, [], 0, 0),
  (39, .lload_n 2, 1, [], 0, 0),
  (40, .iload_n 1, 1, [], 0, 0),
  (41, .iload 4, 2, [], 0, 0),
  (43, .ishr, 1, [], 0, 0),
  (44, .iconst 1, 1, [], 1, 0),
  (45, .iand, 1, [], 0, 0),
  (46, .iconst 1, 1, [], 1, 0),
  (47, .if_icmp .ne 9, 3, [(0, 56)], 0, 0),
  (50, .iload 5, 2, [], 0, 0),
  (52, .i2l, 1, [], 0, 0),
  (53, .goto 9, 3, [(0, 62)], 0, 0),
  (56, .bipush 10, 2, [], 10, 0),
  (58, .iload 5, 2, [], 0, 0),
  (60, .isub, 1, [], 0, 0),
  (61, .i2l, 1, [], 0, 0),
  (62, .lmul, 1, [], 0, 0),
  (63, .lstore_n 2, 1, [], 0, 0),
  (64, .iinc 4 1, 3, [], 1, 0),
  (67, .goto (-62), 3, [(0, 5)], 0, 0),
  (70, .lload_n 2, 1, [], 0, 0),
  (71, .lreturn, 1, [], 0, 0)]
def bt_TX6_allWeight : List bt_E := [
  (0, .lconst 1, 1, [], 0, 1),
  (1, .lstore_n 1, 1, [], 0, 0),
  (2, .iconst 0, 1, [], 0, 0),
  (3, .istore_n 3, 1, [], 0, 0),
  (4, .iload_n 3, 1, [], 0, 0),
  (5, .aload_n 0, 1, [], 0, 0),
  (6, .invokevirtual 214, 3, [], 0, 0),
  (9, .if_icmp .ge 15, 3, [(0, 24)], 0, 0),
  (12, .lload_n 1, 1, [], 0, 0),
  (13, .ldc2_w 171, 3, [], 0, 10),
  (16, .lmul, 1, [], 0, 0),
  (17, .lstore_n 1, 1, [], 0, 0),
  (18, .iinc 3 1, 3, [], 1, 0),
  (21, .goto (-17), 3, [(0, 4)], 0, 0),
  (24, .lload_n 1, 1, [], 0, 0),
  (25, .lreturn, 1, [], 0, 0)]
def bt_TX6_lowest : List bt_E := [
  (0, .lload_n 0, 1, [], 0, 0),
  (1, .lconst 0, 1, [], 0, 0),
  (2, .lcmp, 1, [], 0, 0),
  (3, .ifCond .ge 8, 3, [(0, 11)], 0, 0),
  (6, .lload_n 0, 1, [], 0, 0),
  (7, .lneg, 1, [], 0, 0),
  (8, .goto 4, 3, [(0, 12)], 0, 0),
  (11, .lload_n 0, 1, [], 0, 0),
  (12, .lstore 5, 2, [], 0, 0),
  (14, .lload_n 2, 1, [], 0, 0),
  (15, .lstore 7, 2, [], 0, 0),
  (17, .lload 7, 2, [], 0, 0),
  (19, .lconst 0, 1, [], 0, 0),
  (20, .lcmp, 1, [], 0, 0),
  (21, .ifCond .eq 21, 3, [(0, 42)], 0, 0),
  (24, .lload 5, 2, [], 0, 0),
  (26, .lload 7, 2, [], 0, 0),
  (28, .lrem, 1, [], 0, 0),
  (29, .lstore 9, 2, [], 0, 0),
  (31, .lload 7, 2, [], 0, 0),
  (33, .lstore 5, 2, [], 0, 0),
  (35, .lload 9, 2, [], 0, 0),
  (37, .lstore 7, 2, [], 0, 0),
  (39, .goto (-22), 3, [(0, 17)], 0, 0),
  (42, .iload 4, 2, [], 0, 0),
  (44, .ifCond .ne 7, 3, [(0, 51)], 0, 0),
  (47, .lload_n 0, 1, [], 0, 0),
  (48, .goto 4, 3, [(0, 52)], 0, 0),
  (51, .lload_n 2, 1, [], 0, 0),
  (52, .lload 5, 2, [], 0, 0),
  (54, .ldiv, 1, [], 0, 0),
  (55, .lreturn, 1, [], 0, 0)]
def bt_TX6_meanOf : List bt_E := [
  (0, .lconst 0, 1, [], 0, 0),
  (1, .lstore 4, 2, [], 0, 0),
  (3, .iconst 0, 1, [], 0, 0),
  (4, .istore 6, 2, [], 0, 0),
  (6, .iload 6, 2, [], 0, 0),
  (8, .iconst 1, 1, [], 1, 0),
  (9, .aload_n 0, 1, [], 0, 0),
  (10, .invokevirtual 214, 3, [], 0, 0),
  (13, .ishl, 1, [], 0, 0),
  (14, .if_icmp .ge 104, 3, [(0, 118)], 0, 0),
  (17, .aload_n 0, 1, [], 0, 0),
  (18, .iload 6, 2, [], 0, 0),
  (20, .iload_n 1, 1, [], 0, 0),
  (21, .invokevirtual 217, 3, [], 0, 0),
  (24, .istore 7, 2, [], 0, 0),
  (26, .iload_n 2, 1, [], 0, 0),
  (27, .bipush 10, 2, [], 10, 0),
  (29, .if_icmp .lt 20, 3, [(0, 49)], 0, 0),
  (32, .iload 7, 2, [], 0, 0),
  (34, .iload_n 2, 1, [], 0, 0),
  (35, .bipush 10, 2, [], 10, 0),
  (37, .isub, 1, [], 0, 0),
  (38, .if_icmp .ne 7, 3, [(0, 45)], 0, 0),
  (41, .lconst 1, 1, [], 0, 1),
  (42, .goto 54, 3, [(0, 96)], 0, 0),
  (45, .lconst 0, 1, [], 0, 0),
  (46, .goto 50, 3, [(0, 96)], 0, 0),
  (49, .iload_n 2, 1, [], 0, 0),
  (50, .iconst 2, 1, [], 2, 0),
  (51, .if_icmp .ne 22, 3, [(0, 73)], 0, 0),
  (54, .aload_n 0, 1, [], 0, 0),
  (55, .getfield 133, 3, [], 0, 0),
  (58, .aload_n 0, 1, [], 0, 0),
  (59, .sipush 360, 3, [], 360, 0),
  (62, .invokevirtual 146, 3, [], 0, 0),
  (65, .invokestatic 181, 3, [], 0, 0),
  (68, .isub, 1, [], 0, 0),
  (69, .i2l, 1, [], 0, 0),
  (70, .goto 26, 3, [(0, 96)], 0, 0),
  (73, .aload_n 0, 1, [], 0, 0),
  (74, .getfield 7, 3, [], 0, 0),
  (77, .sipush 418, 3, [], 418, 0),
  (80, .iconst 5, 1, [], 5, 0),
  (81, .iload_n 1, 1, [], 0, 0),
  (82, .imul, 1, [], 0, 0),
  (83, .iadd, 1, [], 0, 0),
  (84, .iload_n 2, 1, [], 0, 0),
  (85, .ifCond .ne 7, 3, [(0, 92)], 0, 0),
  (88, .iconst 4, 1, [], 4, 0),
  (89, .goto 4, 3, [(0, 93)], 0, 0),
  (92, .iconst 3, 1, [], 3, 0),
  (93, .iadd, 1, [], 0, 0),
  (94, .iaload, 1, [], 0, 0),
  (95, .i2l, 1, [], 0, 0),
  (96, .lstore 8, 2, [], 0, 0),
  (98, .lload 4, 2, [], 0, 0),
  (100, .lload 8, 2, [], 0, 0),
  (102, .aload_n 0, 1, [], 0, 0),
  (103, .iload 6, 2, [], 0, 0),
  (105, .invokevirtual 220, 3, [], 0, 0),
  (108, .lmul, 1, [], 0, 0),
  (109, .ladd, 1, [], 0, 0),
  (110, .lstore 4, 2, [], 0, 0),
  (112, .iinc 6 1, 3, [], 1, 0),
  (115, .goto (-109), 3, [(0, 6)], 0, 0),
  (118, .lload 4, 2, [], 0, 0),
  (120, .aload_n 0, 1, [], 0, 0),
  (121, .invokevirtual 224, 3, [], 0, 0),
  (124, .iload_n 3, 1, [], 0, 0),
  (125, .invokestatic 228, 3, [], 0, 0),
  (128, .lreturn, 1, [], 0, 0)]
def bt_TX6_past : List bt_E := [
  (0, .aload_n 0, 1, [], 0, 0),
  (1, .iload_n 1, 1, [], 0, 0),
  (2, .invokevirtual 153, 3, [], 0, 0),
  (5, .ifCond .eq 23, 3, [(0, 28)], 0, 0),
  (8, .iload_n 2, 1, [], 0, 0),
  (9, .i2l, 1, [], 0, 0),
  (10, .lconst 0, 1, [], 0, 0),
  (11, .lconst 1, 1, [], 0, 1),
  (12, .invokestatic 46, 3, [], 0, 0),
  (15, .ifCond .eq 13, 3, [(0, 28)], 0, 0),
  (18, .aload_n 0, 1, [], 0, 0),
  (19, .iload_n 1, 1, [], 0, 0),
  (20, .iconst 0, 1, [], 0, 0),
  (21, .iload_n 2, 1, [], 0, 0),
  (22, .invokevirtual 232, 3, [], 0, 0),
  (25, .goto 6, 3, [(0, 31)], 0, 0),
  (28, .ldc2_w 236, 3, [], 0, (-1)),
  (31, .lreturn, 1, [], 0, 0)]
def bt_TX6_mean : List bt_E := [
  (0, .aload_n 0, 1, [], 0, 0),
  (1, .iload_n 1, 1, [], 0, 0),
  (2, .invokevirtual 153, 3, [], 0, 0),
  (5, .ifCond .eq 23, 3, [(0, 28)], 0, 0),
  (8, .iload_n 2, 1, [], 0, 0),
  (9, .i2l, 1, [], 0, 0),
  (10, .lconst 0, 1, [], 0, 0),
  (11, .lconst 1, 1, [], 0, 1),
  (12, .invokestatic 46, 3, [], 0, 0),
  (15, .ifCond .eq 13, 3, [(0, 28)], 0, 0),
  (18, .aload_n 0, 1, [], 0, 0),
  (19, .iload_n 1, 1, [], 0, 0),
  (20, .iconst 1, 1, [], 1, 0),
  (21, .iload_n 2, 1, [], 0, 0),
  (22, .invokevirtual 232, 3, [], 0, 0),
  (25, .goto 6, 3, [(0, 31)], 0, 0),
  (28, .ldc2_w 236, 3, [], 0, (-1)),
  (31, .lreturn, 1, [], 0, 0)]
def bt_TX6_row : List bt_E := [
  (0, .iload_n 1, 1, [], 0, 0),
  (1, .i2l, 1, [], 0, 0),
  (2, .lconst 0, 1, [], 0, 0),
  (3, .lconst 1, 1, [], 0, 1),
  (4, .invokestatic 46, 3, [], 0, 0),
  (7, .ifCond .eq 13, 3, [(0, 20)], 0, 0),
  (10, .aload_n 0, 1, [], 0, 0),
  (11, .iconst 0, 1, [], 0, 0),
  (12, .iconst 2, 1, [], 2, 0),
  (13, .iload_n 1, 1, [], 0, 0),
  (14, .invokevirtual 232, 3, [], 0, 0),
  (17, .goto 6, 3, [(0, 23)], 0, 0),
  (20, .ldc2_w 236, 3, [], 0, (-1)),
  (23, .lreturn, 1, [], 0, 0)]
def bt_TX6_where : List bt_E := [
  (0, .aload_n 0, 1, [], 0, 0),
  (1, .iload_n 1, 1, [], 0, 0),
  (2, .invokevirtual 153, 3, [], 0, 0),
  (5, .ifCond .eq 49, 3, [(0, 54)], 0, 0),
  (8, .iload_n 2, 1, [], 0, 0),
  (9, .i2l, 1, [], 0, 0),
  (10, .aload_n 0, 1, [], 0, 0),
  (11, .getfield 7, 3, [], 0, 0),
  (14, .bipush 88, 2, [], 88, 0),
  (16, .iaload, 1, [], 0, 0),
  (17, .i2l, 1, [], 0, 0),
  (18, .aload_n 0, 1, [], 0, 0),
  (19, .getfield 130, 3, [], 0, 0),
  (22, .iconst 1, 1, [], 1, 0),
  (23, .isub, 1, [], 0, 0),
  (24, .i2l, 1, [], 0, 0),
  (25, .invokestatic 46, 3, [], 0, 0),
  (28, .ifCond .eq 26, 3, [(0, 54)], 0, 0),
  (31, .iload_n 3, 1, [], 0, 0),
  (32, .i2l, 1, [], 0, 0),
  (33, .lconst 0, 1, [], 0, 0),
  (34, .lconst 1, 1, [], 0, 1),
  (35, .invokestatic 46, 3, [], 0, 0),
  (38, .ifCond .eq 16, 3, [(0, 54)], 0, 0),
  (41, .aload_n 0, 1, [], 0, 0),
  (42, .iload_n 1, 1, [], 0, 0),
  (43, .bipush 10, 2, [], 10, 0),
  (45, .iload_n 2, 1, [], 0, 0),
  (46, .iadd, 1, [], 0, 0),
  (47, .iload_n 3, 1, [], 0, 0),
  (48, .invokevirtual 232, 3, [], 0, 0),
  (51, .goto 6, 3, [(0, 57)], 0, 0),
  (54, .ldc2_w 236, 3, [], 0, (-1)),
  (57, .lreturn, 1, [], 0, 0)]
def bt_TX6_timesOfOthers : List bt_E := [
  (0, .aload_n 0, 1, [], 0, 0),
  (1, .sipush 360, 3, [], 360, 0),
  (4, .invokevirtual 208, 3, [], 0, 0),
  (7, .aload_n 0, 1, [], 0, 0),
  (8, .getfield 7, 3, [], 0, 0),
  (11, .sipush 418, 3, [], 418, 0),
  (14, .iconst 5, 1, [], 5, 0),
  (15, .iload_n 1, 1, [], 0, 0),
  (16, .imul, 1, [], 0, 0),
  (17, .iadd, 1, [], 0, 0),
  (18, .iconst 3, 1, [], 3, 0),
  (19, .iadd, 1, [], 0, 0),
  (20, .iaload, 1, [], 0, 0),
  (21, .isub, 1, [], 0, 0),
  (22, .ireturn, 1, [], 0, 0)]
def bt_TX6_cost : List bt_E := [
  (0, .aload_n 0, 1, [], 0, 0),
  (1, .iload_n 1, 1, [], 0, 0),
  (2, .invokevirtual 153, 3, [], 0, 0),
  (5, .ifCond .ne 5, 3, [(0, 10)], 0, 0),
  (8, .iconst (-1), 1, [], (-1), 0),
  (9, .ireturn, 1, [], 0, 0),
  (10, .aload_n 0, 1, [], 0, 0),
  (11, .iconst 0, 1, [], 0, 0),
  (12, .invokevirtual 205, 3, [], 0, 0),
  (15, .aload_n 0, 1, [], 0, 0),
  (16, .iload_n 1, 1, [], 0, 0),
  (17, .invokevirtual 238, 3, [], 0, 0),
  (20, .istore_n 2, 1, [], 0, 0),
  (21, .aload_n 0, 1, [], 0, 0),
  (22, .iconst 0, 1, [], 0, 0),
  (23, .sipush 450, 3, [], 450, 0),
  (26, .invokevirtual 199, 3, [], 0, 0),
  (29, .aload_n 0, 1, [], 0, 0),
  (30, .getfield 7, 3, [], 0, 0),
  (33, .sipush 508, 3, [], 508, 0),
  (36, .iconst 5, 1, [], 5, 0),
  (37, .iload_n 1, 1, [], 0, 0),
  (38, .imul, 1, [], 0, 0),
  (39, .iadd, 1, [], 0, 0),
  (40, .iconst 2, 1, [], 2, 0),
  (41, .iastore, 1, [], 0, 0),
  (42, .aload_n 0, 1, [], 0, 0),
  (43, .getfield 7, 3, [], 0, 0),
  (46, .sipush 508, 3, [], 508, 0),
  (49, .iconst 5, 1, [], 5, 0),
  (50, .iload_n 1, 1, [], 0, 0),
  (51, .imul, 1, [], 0, 0),
  (52, .iadd, 1, [], 0, 0),
  (53, .iconst 1, 1, [], 1, 0),
  (54, .iadd, 1, [], 0, 0),
  (55, .iconst 1, 1, [], 1, 0),
  (56, .iastore, 1, [], 0, 0),
  (57, .aload_n 0, 1, [], 0, 0),
  (58, .sipush 450, 3, [], 450, 0),
  (61, .invokevirtual 205, 3, [], 0, 0),
  (64, .sipush 10000, 3, [], 10000, 0),
  (67, .iload_n 2, 1, [], 0, 0),
  (68, .iadd, 1, [], 0, 0),
  (69, .aload_n 0, 1, [], 0, 0),
  (70, .iload_n 1, 1, [], 0, 0),
  (71, .invokevirtual 238, 3, [], 0, 0),
  (74, .isub, 1, [], 0, 0),
  (75, .ireturn, 1, [], 0, 0)]
def bt_TX6_mostSaved : List bt_E := [
  (0, .aload_n 0, 1, [], 0, 0),
  (1, .iconst 0, 1, [], 0, 0),
  (2, .invokevirtual 205, 3, [], 0, 0),
  (5, .aload_n 0, 1, [], 0, 0),
  (6, .sipush 360, 3, [], 360, 0),
  (9, .invokevirtual 208, 3, [], 0, 0),
  (12, .istore_n 3, 1, [], 0, 0),
  (13, .iconst 0, 1, [], 0, 0),
  (14, .istore 4, 2, [], 0, 0),
  (16, .bipush (-4), 2, [], (-4), 0),
  (18, .istore 5, 2, [], 0, 0),
  (20, .aload_n 0, 1, [], 0, 0),
  (21, .getfield 7, 3, [], 0, 0),
  (24, .bipush 88, 2, [], 88, 0),
  (26, .iaload, 1, [], 0, 0),
  (27, .istore 6, 2, [], 0, 0),
  (29, .iload 6, 2, [], 0, 0),
  (31, .aload_n 0, 1, [], 0, 0),
  (32, .getfield 130, 3, [], 0, 0),
  (35, .if_icmp .ge 123, 3, [(0, 158)], 0, 0),
  (38, .aload_n 0, 1, [], 0, 0),
  (39, .getfield 7, 3, [], 0, 0),
  (42, .bipush 7, 2, [], 7, 0),
  (44, .iload 6, 2, [], 0, 0),
  (46, .imul, 1, [], 0, 0),
  (47, .iload_n 1, 1, [], 0, 0),
  (48, .iadd, 1, [], 0, 0),
  (49, .iaload, 1, [], 0, 0),
  (50, .ifCond .ne 102, 3, [(0, 152)], 0, 0),
  (53, .aload_n 0, 1, [], 0, 0),
  (54, .iconst 0, 1, [], 0, 0),
  (55, .sipush 450, 3, [], 450, 0),
  (58, .invokevirtual 199, 3, [], 0, 0),
  (61, .aload_n 0, 1, [], 0, 0),
  (62, .getfield 7, 3, [], 0, 0),
  (65, .sipush 450, 3, [], 450, 0),
  (68, .bipush 7, 2, [], 7, 0),
  (70, .iload 6, 2, [], 0, 0),
  (72, .imul, 1, [], 0, 0),
  (73, .iadd, 1, [], 0, 0),
  (74, .iload_n 1, 1, [], 0, 0),
  (75, .iadd, 1, [], 0, 0),
  (76, .iconst 1, 1, [], 1, 0),
  (77, .iastore, 1, [], 0, 0),
  (78, .aload_n 0, 1, [], 0, 0),
  (79, .getfield 7, 3, [], 0, 0),
  (82, .sipush 507, 3, [], 507, 0),
  (85, .iload_n 1, 1, [], 0, 0),
  (86, .iconst 5, 1, [], 5, 0),
  (87, .if_icmp .ne 7, 3, [(0, 94)], 0, 0),
  (90, .iconst 1, 1, [], 1, 0),
  (91, .goto 10, 3, [(0, 101)], 0, 0),
  (94, .aload_n 0, 1, [], 0, 0),
  (95, .getfield 7, 3, [], 0, 0),
  (98, .bipush 57, 2, [], 57, 0),
  (100, .iaload, 1, [], 0, 0),
  (101, .iastore, 1, [], 0, 0),
  (102, .aload_n 0, 1, [], 0, 0),
  (103, .sipush 450, 3, [], 450, 0),
  (106, .invokevirtual 205, 3, [], 0, 0),
  (109, .iload_n 3, 1, [], 0, 0),
  (110, .aload_n 0, 1, [], 0, 0),
  (111, .sipush 360, 3, [], 360, 0),
  (114, .invokevirtual 208, 3, [], 0, 0),
  (117, .isub, 1, [], 0, 0),
  (118, .istore 7, 2, [], 0, 0),
  (120, .iload 7, 2, [], 0, 0),
  (122, .iload 4, 2, [], 0, 0),
  (124, .if_icmp .le 8, 3, [(0, 132)], 0, 0),
  (127, .iload 6, 2, [], 0, 0),
  (129, .goto 5, 3, [(0, 134)], 0, 0),
  (132, .iload 5, 2, [], 0, 0),
  (134, .istore 5, 2, [], 0, 0),
  (136, .iload 7, 2, [], 0, 0),
  (138, .iload 4, 2, [], 0, 0),
  (140, .if_icmp .le 8, 3, [(0, 148)], 0, 0),
  (143, .iload 7, 2, [], 0, 0),
  (145, .goto 5, 3, [(0, 150)], 0, 0),
  (148, .iload 4, 2, [], 0, 0),
  (150, .istore 4, 2, [], 0, 0),
  (152, .iinc 6 1, 3, [], 1, 0),
  (155, .goto (-126), 3, [(0, 29)], 0, 0),
  (158, .iload 5, 2, [], 0, 0),
  (160, .bipush (-4), 2, [], (-4), 0),
  (162, .if_icmp .eq 7, 3, [(0, 169)], 0, 0),
  (165, .iload_n 2, 1, [], 0, 0),
  (166, .ifCond .ne 8, 3, [(0, 174)], 0, 0),
  (169, .iload 5, 2, [], 0, 0),
  (171, .goto 5, 3, [(0, 176)], 0, 0),
  (174, .iload 4, 2, [], 0, 0),
  (176, .ireturn, 1, [], 0, 0)]
def bt_TX6_third : List bt_E := [
  (0, .iload_n 1, 1, [], 0, 0),
  (1, .i2l, 1, [], 0, 0),
  (2, .lconst 0, 1, [], 0, 0),
  (3, .lconst 1, 1, [], 0, 1),
  (4, .invokestatic 46, 3, [], 0, 0),
  (7, .ifCond .eq 13, 3, [(0, 20)], 0, 0),
  (10, .aload_n 0, 1, [], 0, 0),
  (11, .bipush 6, 2, [], 6, 0),
  (13, .iload_n 1, 1, [], 0, 0),
  (14, .invokevirtual 241, 3, [], 0, 0),
  (17, .goto 4, 3, [(0, 21)], 0, 0),
  (20, .iconst (-1), 1, [], (-1), 0),
  (21, .ireturn, 1, [], 0, 0)]
def bt_TX6_layby : List bt_E := [
  (0, .iload_n 1, 1, [], 0, 0),
  (1, .i2l, 1, [], 0, 0),
  (2, .lconst 0, 1, [], 0, 0),
  (3, .lconst 1, 1, [], 0, 1),
  (4, .invokestatic 46, 3, [], 0, 0),
  (7, .ifCond .eq 12, 3, [(0, 19)], 0, 0),
  (10, .aload_n 0, 1, [], 0, 0),
  (11, .iconst 5, 1, [], 5, 0),
  (12, .iload_n 1, 1, [], 0, 0),
  (13, .invokevirtual 241, 3, [], 0, 0),
  (16, .goto 4, 3, [(0, 20)], 0, 0),
  (19, .iconst (-1), 1, [], (-1), 0),
  (20, .ireturn, 1, [], 0, 0)]
def bt_TX6_fair : List bt_E := [
  (0, .iload_n 1, 1, [], 0, 0),
  (1, .i2l, 1, [], 0, 0),
  (2, .lconst 0, 1, [], 0, 0),
  (3, .lconst 1, 1, [], 0, 1),
  (4, .invokestatic 46, 3, [], 0, 0),
  (7, .ifCond .ne 5, 3, [(0, 12)], 0, 0),
  (10, .iconst (-1), 1, [], (-1), 0),
  (11, .ireturn, 1, [], 0, 0),
  (12, .iconst 0, 1, [], 0, 0),
  (13, .istore_n 2, 1, [], 0, 0),
  (14, .bipush (-4), 2, [], (-4), 0),
  (16, .istore_n 3, 1, [], 0, 0),
  (17, .aload_n 0, 1, [], 0, 0),
  (18, .iconst 0, 1, [], 0, 0),
  (19, .sipush 450, 3, [], 450, 0),
  (22, .invokevirtual 199, 3, [], 0, 0),
  (25, .iconst 0, 1, [], 0, 0),
  (26, .istore 4, 2, [], 0, 0),
  (28, .iload 4, 2, [], 0, 0),
  (30, .bipush 6, 2, [], 6, 0),
  (32, .if_icmp .gt 79, 3, [(0, 111)], 0, 0),
  (35, .aload_n 0, 1, [], 0, 0),
  (36, .getfield 7, 3, [], 0, 0),
  (39, .sipush 507, 3, [], 507, 0),
  (42, .iload 4, 2, [], 0, 0),
  (44, .iastore, 1, [], 0, 0),
  (45, .aload_n 0, 1, [], 0, 0),
  (46, .sipush 450, 3, [], 450, 0),
  (49, .invokevirtual 205, 3, [], 0, 0),
  (52, .iload_n 3, 1, [], 0, 0),
  (53, .bipush (-4), 2, [], (-4), 0),
  (55, .if_icmp .eq 14, 3, [(0, 69)], 0, 0),
  (58, .aload_n 0, 1, [], 0, 0),
  (59, .sipush 360, 3, [], 360, 0),
  (62, .invokevirtual 208, 3, [], 0, 0),
  (65, .iload_n 2, 1, [], 0, 0),
  (66, .if_icmp .ge 7, 3, [(0, 73)], 0, 0),
  (69, .iconst 1, 1, [], 1, 0),
  (70, .goto 4, 3, [(0, 74)], 0, 0),
  (73, .iconst 0, 1, [], 0, 0),
  (74, .istore 5, 2, [], 0, 0),
  (76, .iload 5, 2, [], 0, 0),
  (78, .ifCond .eq 8, 3, [(0, 86)], 0, 0),
  (81, .iload 4, 2, [], 0, 0),
  (83, .goto 4, 3, [(0, 87)], 0, 0),
  (86, .iload_n 3, 1, [], 0, 0),
  (87, .istore_n 3, 1, [], 0, 0),
  (88, .iload 5, 2, [], 0, 0),
  (90, .ifCond .eq 13, 3, [(0, 103)], 0, 0),
  (93, .aload_n 0, 1, [], 0, 0),
  (94, .sipush 360, 3, [], 360, 0),
  (97, .invokevirtual 208, 3, [], 0, 0),
  (100, .goto 4, 3, [(0, 104)], 0, 0),
  (103, .iload_n 2, 1, [], 0, 0),
  (104, .istore_n 2, 1, [], 0, 0),
  (105, .iinc 4 1, 3, [], 1, 0),
  (108, .goto (-80), 3, [(0, 28)], 0, 0),
  (111, .iload_n 1, 1, [], 0, 0),
  (112, .ifCond .ne 7, 3, [(0, 119)], 0, 0),
  (115, .iload_n 3, 1, [], 0, 0),
  (116, .goto 4, 3, [(0, 120)], 0, 0),
  (119, .iload_n 2, 1, [], 0, 0),
  (120, .ireturn, 1, [], 0, 0)]
def bt_TX6_need : List bt_E := [
  (0, .aload_n 0, 1, [], 0, 0),
  (1, .iload_n 1, 1, [], 0, 0),
  (2, .invokevirtual 153, 3, [], 0, 0),
  (5, .ifCond .ne 5, 3, [(0, 10)], 0, 0),
  (8, .iconst (-1), 1, [], (-1), 0),
  (9, .ireturn, 1, [], 0, 0),
  (10, .aload_n 0, 1, [], 0, 0),
  (11, .iconst 0, 1, [], 0, 0),
  (12, .iload_n 1, 1, [], 0, 0),
  (13, .invokevirtual 139, 3, [], 0, 0),
  (16, .ifCond .eq 6, 3, [(0, 22)], 0, 0),
  (19, .bipush (-2), 2, [], (-2), 0),
  (21, .ireturn, 1, [], 0, 0),
  (22, .aload_n 0, 1, [], 0, 0),
  (23, .iconst 0, 1, [], 0, 0),
  (24, .sipush 450, 3, [], 450, 0),
  (27, .invokevirtual 199, 3, [], 0, 0),
  (30, .iconst 1, 1, [], 1, 0),
  (31, .istore_n 2, 1, [], 0, 0),
  (32, .iload_n 2, 1, [], 0, 0),
  (33, .bipush 9, 2, [], 9, 0),
  (35, .if_icmp .gt 44, 3, [(0, 79)], 0, 0),
  (38, .aload_n 0, 1, [], 0, 0),
  (39, .getfield 7, 3, [], 0, 0),
  (42, .sipush 508, 3, [], 508, 0),
  (45, .iconst 5, 1, [], 5, 0),
  (46, .iload_n 1, 1, [], 0, 0),
  (47, .imul, 1, [], 0, 0),
  (48, .iadd, 1, [], 0, 0),
  (49, .iconst 1, 1, [], 1, 0),
  (50, .iadd, 1, [], 0, 0),
  (51, .iload_n 2, 1, [], 0, 0),
  (52, .iastore, 1, [], 0, 0),
  (53, .aload_n 0, 1, [], 0, 0),
  (54, .sipush 450, 3, [], 450, 0),
  (57, .invokevirtual 205, 3, [], 0, 0),
  (60, .aload_n 0, 1, [], 0, 0),
  (61, .sipush 360, 3, [], 360, 0),
  (64, .iload_n 1, 1, [], 0, 0),
  (65, .invokevirtual 139, 3, [], 0, 0),
  (68, .ifCond .ne 5, 3, [(0, 73)], 0, 0),
  (71, .iload_n 2, 1, [], 0, 0),
  (72, .ireturn, 1, [], 0, 0),
  (73, .iinc 2 1, 3, [], 1, 0),
  (76, .goto (-44), 3, [(0, 32)], 0, 0),
  (79, .bipush (-4), 2, [], (-4), 0),
  (81, .ireturn, 1, [], 0, 0)]
def bt_TX6_firstBehind : List bt_E := [
  (0, .iconst 0, 1, [], 0, 0),
  (1, .istore_n 1, 1, [], 0, 0),
  (2, .iload_n 1, 1, [], 0, 0),
  (3, .aload_n 0, 1, [], 0, 0),
  (4, .getfield 133, 3, [], 0, 0),
  (7, .if_icmp .ge 18, 3, [(0, 25)], 0, 0),
  (10, .aload_n 0, 1, [], 0, 0),
  (11, .iconst 0, 1, [], 0, 0),
  (12, .iload_n 1, 1, [], 0, 0),
  (13, .invokevirtual 139, 3, [], 0, 0),
  (16, .ifCond .eq 9, 3, [(0, 25)], 0, 0),
  (19, .iinc 1 1, 3, [], 1, 0),
  (22, .goto (-20), 3, [(0, 2)], 0, 0),
  (25, .iload_n 1, 1, [], 0, 0),
  (26, .aload_n 0, 1, [], 0, 0),
  (27, .getfield 133, 3, [], 0, 0),
  (30, .if_icmp .ge 7, 3, [(0, 37)], 0, 0),
  (33, .iload_n 1, 1, [], 0, 0),
  (34, .goto 5, 3, [(0, 39)], 0, 0),
  (37, .bipush (-4), 2, [], (-4), 0),
  (39, .ireturn, 1, [], 0, 0)]
def bt_TX6_chance : List bt_E := [
  (0, .aload_n 0, 1, [], 0, 0),
  (1, .getfield 7, 3, [], 0, 0),
  (4, .bipush 58, 2, [], 58, 0),
  (6, .iconst 5, 1, [], 5, 0),
  (7, .iload_n 1, 1, [], 0, 0),
  (8, .imul, 1, [], 0, 0),
  (9, .iadd, 1, [], 0, 0),
  (10, .iaload, 1, [], 0, 0),
  (11, .istore_n 3, 1, [], 0, 0),
  (12, .aload_n 0, 1, [], 0, 0),
  (13, .getfield 7, 3, [], 0, 0),
  (16, .bipush 58, 2, [], 58, 0),
  (18, .iconst 5, 1, [], 5, 0),
  (19, .iload_n 1, 1, [], 0, 0),
  (20, .imul, 1, [], 0, 0),
  (21, .iadd, 1, [], 0, 0),
  (22, .iconst 1, 1, [], 1, 0),
  (23, .iadd, 1, [], 0, 0),
  (24, .iaload, 1, [], 0, 0),
  (25, .istore 4, 2, [], 0, 0),
  (27, .aload_n 0, 1, [], 0, 0),
  (28, .getfield 7, 3, [], 0, 0),
  (31, .bipush 7, 2, [], 7, 0),
  (33, .iload_n 2, 1, [], 0, 0),
  (34, .imul, 1, [], 0, 0),
  (35, .iconst 3, 1, [], 3, 0),
  (36, .iadd, 1, [], 0, 0),
  (37, .iaload, 1, [], 0, 0),
  (38, .bipush 10, 2, [], 10, 0),
  (40, .iadd, 1, [], 0, 0),
  (41, .istore 5, 2, [], 0, 0),
  (43, .aload_n 0, 1, [], 0, 0),
  (44, .iload_n 3, 1, [], 0, 0),
  (45, .iload 4, 2, [], 0, 0),
  (47, .iconst 1, 1, [], 1, 0),
  (48, .aload_n 0, 1, [], 0, 0),
  (49, .iconst 0, 1, [], 0, 0),
  (50, .iload_n 2, 1, [], 0, 0),
  (51, .aload_n 0, 1, [], 0, 0),
  (52, .getfield 7, 3, [], 0, 0),
  (55, .bipush 7, 2, [], 7, 0),
  (57, .iload_n 2, 1, [], 0, 0),
  (58, .imul, 1, [], 0, 0),
  (59, .iconst 2, 1, [], 2, 0),
  (60, .iadd, 1, [], 0, 0),
  (61, .iaload, 1, [], 0, 0),
  (62, .invokevirtual 163, 3, [], 0, 0),
  (65, .invokevirtual 177, 3, [], 0, 0),
  (68, .ifCond .eq 8, 3, [(0, 76)], 0, 0),
  (71, .iload 5, 2, [], 0, 0),
  (73, .goto 4, 3, [(0, 77)], 0, 0),
  (76, .iconst 0, 1, [], 0, 0),
  (77, .istore 6, 2, [], 0, 0),
  (79, .iload 6, 2, [], 0, 0),
  (81, .aload_n 0, 1, [], 0, 0),
  (82, .iload_n 3, 1, [], 0, 0),
  (83, .iload 4, 2, [], 0, 0),
  (85, .iconst 1, 1, [], 1, 0),
  (86, .aload_n 0, 1, [], 0, 0),
  (87, .iconst 0, 1, [], 0, 0),
  (88, .iload_n 2, 1, [], 0, 0),
  (89, .iconst 0, 1, [], 0, 0),
  (90, .invokevirtual 163, 3, [], 0, 0),
  (93, .invokevirtual 177, 3, [], 0, 0),
  (96, .ifCond .eq 11, 3, [(0, 107)], 0, 0),
  (99, .bipush 10, 2, [], 10, 0),
  (101, .iload 5, 2, [], 0, 0),
  (103, .isub, 1, [], 0, 0),
  (104, .goto 4, 3, [(0, 108)], 0, 0),
  (107, .iconst 0, 1, [], 0, 0),
  (108, .iadd, 1, [], 0, 0),
  (109, .ireturn, 1, [], 0, 0)]
def bt_TX6_dare : List bt_E := [
  (0, .iload_n 1, 1, [], 0, 0),
  (1, .i2l, 1, [], 0, 0),
  (2, .lconst 0, 1, [], 0, 0),
  (3, .ldc2_w 244, 3, [], 0, 99),
  (6, .invokestatic 46, 3, [], 0, 0),
  (9, .ifCond .eq 15, 3, [(0, 24)], 0, 0),
  (12, .iload_n 2, 1, [], 0, 0),
  (13, .i2l, 1, [], 0, 0),
  (14, .lconst 0, 1, [], 0, 0),
  (15, .ldc2_w 173, 3, [], 0, 2),
  (18, .invokestatic 46, 3, [], 0, 0),
  (21, .ifCond .ne 7, 3, [(0, 28)], 0, 0),
  (24, .ldc2_w 236, 3, [], 0, (-1)),
  (27, .lreturn, 1, [], 0, 0),
  (28, .aload_n 0, 1, [], 0, 0),
  (29, .invokevirtual 246, 3, [], 0, 0),
  (32, .istore_n 3, 1, [], 0, 0),
  (33, .iload_n 3, 1, [], 0, 0),
  (34, .bipush (-4), 2, [], (-4), 0),
  (36, .if_icmp .ne 7, 3, [(0, 43)], 0, 0),
  (39, .ldc2_w 249, 3, [], 0, (-2)),
  (42, .lreturn, 1, [], 0, 0),
  (43, .aload_n 0, 1, [], 0, 0),
  (44, .iconst 0, 1, [], 0, 0),
  (45, .invokevirtual 143, 3, [], 0, 0),
  (48, .aload_n 0, 1, [], 0, 0),
  (49, .getfield 7, 3, [], 0, 0),
  (52, .bipush 58, 2, [], 58, 0),
  (54, .iconst 5, 1, [], 5, 0),
  (55, .iload_n 3, 1, [], 0, 0),
  (56, .imul, 1, [], 0, 0),
  (57, .iadd, 1, [], 0, 0),
  (58, .iconst 2, 1, [], 2, 0),
  (59, .iadd, 1, [], 0, 0),
  (60, .iaload, 1, [], 0, 0),
  (61, .isub, 1, [], 0, 0),
  (62, .istore 4, 2, [], 0, 0),
  (64, .lconst 0, 1, [], 0, 0),
  (65, .lstore 5, 2, [], 0, 0),
  (67, .lconst 1, 1, [], 0, 1),
  (68, .lstore 7, 2, [], 0, 0),
  (70, .iconst 0, 1, [], 0, 0),
  (71, .istore 9, 2, [], 0, 0),
  (73, .bipush (-4), 2, [], (-4), 0),
  (75, .istore 10, 2, [], 0, 0),
  (77, .aload_n 0, 1, [], 0, 0),
  (78, .getfield 130, 3, [], 0, 0),
  (81, .iconst 1, 1, [], 1, 0),
  (82, .isub, 1, [], 0, 0),
  (83, .istore 11, 2, [], 0, 0),
  (85, .iload 11, 2, [], 0, 0),
  (87, .aload_n 0, 1, [], 0, 0),
  (88, .getfield 7, 3, [], 0, 0),
  (91, .bipush 88, 2, [], 88, 0),
  (93, .iaload, 1, [], 0, 0),
  (94, .if_icmp .lt 117, 3, [(0, 211)], 0, 0),
  (97, .iload 9, 2, [], 0, 0),
  (99, .aload_n 0, 1, [], 0, 0),
  (100, .getfield 7, 3, [], 0, 0),
  (103, .bipush 7, 2, [], 7, 0),
  (105, .iload 11, 2, [], 0, 0),
  (107, .imul, 1, [], 0, 0),
  (108, .iaload, 1, [], 0, 0),
  (109, .iload 4, 2, [], 0, 0),
  (111, .imul, 1, [], 0, 0),
  (112, .iadd, 1, [], 0, 0),
  (113, .istore 9, 2, [], 0, 0),
  (115, .aload_n 0, 1, [], 0, 0),
  (116, .iload_n 3, 1, [], 0, 0),
  (117, .iload 11, 2, [], 0, 0),
  (119, .invokevirtual 251, 3, [], 0, 0),
  (122, .istore 12, 2, [], 0, 0),
  (124, .ldc2_w 171, 3, [], 0, 10),
  (127, .lload 5, 2, [], 0, 0),
  (129, .lmul, 1, [], 0, 0),
  (130, .lstore 13, 2, [], 0, 0),
  (132, .iload 12, 2, [], 0, 0),
  (134, .iload 9, 2, [], 0, 0),
  (136, .imul, 1, [], 0, 0),
  (137, .i2l, 1, [], 0, 0),
  (138, .lload 7, 2, [], 0, 0),
  (140, .lmul, 1, [], 0, 0),
  (141, .bipush 10, 2, [], 10, 0),
  (143, .iload 12, 2, [], 0, 0),
  (145, .isub, 1, [], 0, 0),
  (146, .i2l, 1, [], 0, 0),
  (147, .lload 5, 2, [], 0, 0),
  (149, .lmul, 1, [], 0, 0),
  (150, .ladd, 1, [], 0, 0),
  (151, .ldc2_w 171, 3, [], 0, 10),
  (154, .iload_n 1, 1, [], 0, 0),
  (155, .i2l, 1, [], 0, 0),
  (156, .lmul, 1, [], 0, 0),
  (157, .lload 7, 2, [], 0, 0),
  (159, .lmul, 1, [], 0, 0),
  (160, .lsub, 1, [], 0, 0),
  (161, .lstore 15, 2, [], 0, 0),
  (163, .lload 15, 2, [], 0, 0),
  (165, .lload 13, 2, [], 0, 0),
  (167, .lcmp, 1, [], 0, 0),
  (168, .ifCond .le 8, 3, [(0, 176)], 0, 0),
  (171, .iload 11, 2, [], 0, 0),
  (173, .goto 5, 3, [(0, 178)], 0, 0),
  (176, .iload 10, 2, [], 0, 0),
  (178, .istore 10, 2, [], 0, 0),
  (180, .lload 15, 2, [], 0, 0),
  (182, .lload 13, 2, [], 0, 0),
  (184, .lcmp, 1, [], 0, 0),
  (185, .ifCond .le 8, 3, [(0, 193)], 0, 0),
  (188, .lload 15, 2, [], 0, 0),
  (190, .goto 5, 3, [(0, 195)], 0, 0),
  (193, .lload 13, 2, [], 0, 0),
  (195, .lstore 5, 2, [], 0, 0),
  (197, .lload 7, 2, [], 0, 0),
  (199, .ldc2_w 171, 3, [], 0, 10),
  (202, .lmul, 1, [], 0, 0),
  (203, .lstore 7, 2, [], 0, 0),
  (205, .iinc 11 (-1), 3, [], (-1), 0),
  (208, .goto (-123), 3, [(0, 85)], 0, 0),
  (211, .iload_n 2, 1, [], 0, 0),
  (212, .iconst 2, 1, [], 2, 0),
  (213, .if_icmp .ne 9, 3, [(0, 222)], 0, 0),
  (216, .iload 10, 2, [], 0, 0),
  (218, .i2l, 1, [], 0, 0),
  (219, .goto 11, 3, [(0, 230)], 0, 0),
  (222, .lload 5, 2, [], 0, 0),
  (224, .lload 7, 2, [], 0, 0),
  (226, .iload_n 2, 1, [], 0, 0),
  (227, .invokestatic 228, 3, [], 0, 0),
  (230, .lreturn, 1, [], 0, 0)]
def bt_TX6_see : List bt_E := [
  (0, .aload_n 0, 1, [], 0, 0),
  (1, .iload_n 1, 1, [], 0, 0),
  (2, .invokevirtual 153, 3, [], 0, 0),
  (5, .ifCond .eq 15, 3, [(0, 20)], 0, 0),
  (8, .iload_n 2, 1, [], 0, 0),
  (9, .i2l, 1, [], 0, 0),
  (10, .lconst 0, 1, [], 0, 0),
  (11, .ldc2_w 254, 3, [], 0, 999),
  (14, .invokestatic 46, 3, [], 0, 0),
  (17, .ifCond .ne 5, 3, [(0, 22)], 0, 0),
  (20, .iconst (-1), 1, [], (-1), 0),
  (21, .ireturn, 1, [], 0, 0),
  (22, .aload_n 0, 1, [], 0, 0),
  (23, .getfield 136, 3, [], 0, 0),
  (26, .bipush 6, 2, [], 6, 0),
  (28, .if_icmp .ne 6, 3, [(0, 34)], 0, 0),
  (31, .bipush (-3), 2, [], (-3), 0),
  (33, .ireturn, 1, [], 0, 0),
  (34, .aload_n 0, 1, [], 0, 0),
  (35, .getfield 28, 3, [], 0, 0),
  (38, .iconst 2, 1, [], 2, 0),
  (39, .aload_n 0, 1, [], 0, 0),
  (40, .getfield 136, 3, [], 0, 0),
  (43, .imul, 1, [], 0, 0),
  (44, .iload_n 1, 1, [], 0, 0),
  (45, .iastore, 1, [], 0, 0),
  (46, .aload_n 0, 1, [], 0, 0),
  (47, .getfield 28, 3, [], 0, 0),
  (50, .iconst 2, 1, [], 2, 0),
  (51, .aload_n 0, 1, [], 0, 0),
  (52, .getfield 136, 3, [], 0, 0),
  (55, .imul, 1, [], 0, 0),
  (56, .iconst 1, 1, [], 1, 0),
  (57, .iadd, 1, [], 0, 0),
  (58, .iload_n 2, 1, [], 0, 0),
  (59, .iastore, 1, [], 0, 0),
  (60, .aload_n 0, 1, [], 0, 0),
  (61, .dup, 1, [], 0, 0),
  (62, .getfield 136, 3, [], 0, 0),
  (65, .iconst 1, 1, [], 1, 0),
  (66, .iadd, 1, [], 0, 0),
  (67, .putfield 136, 3, [], 0, 0),
  (70, .aload_n 0, 1, [], 0, 0),
  (71, .getfield 136, 3, [], 0, 0),
  (74, .ireturn, 1, [], 0, 0)]
def bt_TX6_forget : List bt_E := [
  (0, .iload_n 1, 1, [], 0, 0),
  (1, .i2l, 1, [], 0, 0),
  (2, .lconst 0, 1, [], 0, 0),
  (3, .aload_n 0, 1, [], 0, 0),
  (4, .getfield 136, 3, [], 0, 0),
  (7, .i2l, 1, [], 0, 0),
  (8, .invokestatic 46, 3, [], 0, 0),
  (11, .ifCond .ne 5, 3, [(0, 16)], 0, 0),
  (14, .iconst (-1), 1, [], (-1), 0),
  (15, .ireturn, 1, [], 0, 0),
  (16, .aload_n 0, 1, [], 0, 0),
  (17, .getfield 136, 3, [], 0, 0),
  (20, .istore_n 2, 1, [], 0, 0),
  (21, .aload_n 0, 1, [], 0, 0),
  (22, .iload_n 1, 1, [], 0, 0),
  (23, .putfield 136, 3, [], 0, 0),
  (26, .iload_n 2, 1, [], 0, 0),
  (27, .ireturn, 1, [], 0, 0)]
def bt_TX6_isAsSeen : List bt_E := [
  (0, .iconst 1, 1, [], 1, 0),
  (1, .istore_n 2, 1, [], 0, 0),
  (2, .aload_n 0, 1, [], 0, 0),
  (3, .iload_n 1, 1, [], 0, 0),
  (4, .iconst 0, 1, [], 0, 0),
  (5, .invokevirtual 217, 3, [], 0, 0),
  (8, .pop, 1, [], 0, 0),
  (9, .iconst 0, 1, [], 0, 0),
  (10, .istore_n 3, 1, [], 0, 0),
  (11, .iload_n 3, 1, [], 0, 0),
  (12, .aload_n 0, 1, [], 0, 0),
  (13, .getfield 136, 3, [], 0, 0),
  (16, .if_icmp .ge 53, 3, [(0, 69)], 0, 0),
  (19, .iload_n 2, 1, [], 0, 0),
  (20, .ifCond .eq 41, 3, [(0, 61)], 0, 0),
  (23, .aload_n 0, 1, [], 0, 0),
  (24, .getfield 7, 3, [], 0, 0),
  (27, .sipush 418, 3, [], 418, 0),
  (30, .iconst 5, 1, [], 5, 0),
  (31, .aload_n 0, 1, [], 0, 0),
  (32, .getfield 28, 3, [], 0, 0),
  (35, .iconst 2, 1, [], 2, 0),
  (36, .iload_n 3, 1, [], 0, 0),
  (37, .imul, 1, [], 0, 0),
  (38, .iaload, 1, [], 0, 0),
  (39, .imul, 1, [], 0, 0),
  (40, .iadd, 1, [], 0, 0),
  (41, .iconst 3, 1, [], 3, 0),
  (42, .iadd, 1, [], 0, 0),
  (43, .iaload, 1, [], 0, 0),
  (44, .aload_n 0, 1, [], 0, 0),
  (45, .getfield 28, 3, [], 0, 0),
  (48, .iconst 2, 1, [], 2, 0),
  (49, .iload_n 3, 1, [], 0, 0),
  (50, .imul, 1, [], 0, 0),
  (51, .iconst 1, 1, [], 1, 0),
  (52, .iadd, 1, [], 0, 0),
  (53, .iaload, 1, [], 0, 0),
  (54, .if_icmp .ne 7, 3, [(0, 61)], 0, 0),
  (57, .iconst 1, 1, [], 1, 0),
  (58, .goto 4, 3, [(0, 62)], 0, 0),
  (61, .iconst 0, 1, [], 0, 0),
  (62, .istore_n 2, 1, [], 0, 0),
  (63, .iinc 3 1, 3, [], 1, 0),
  (66, .goto (-55), 3, [(0, 11)], 0, 0),
  (69, .iload_n 2, 1, [], 0, 0),
  (70, .ireturn, 1, [], 0, 0)]
def bt_TX6_fits : List bt_E := [
  (0, .iload_n 1, 1, [], 0, 0),
  (1, .i2l, 1, [], 0, 0),
  (2, .lconst 0, 1, [], 0, 0),
  (3, .ldc2_w 256, 3, [], 0, 3),
  (6, .invokestatic 46, 3, [], 0, 0),
  (9, .ifCond .ne 5, 3, [(0, 14)], 0, 0),
  (12, .iconst (-1), 1, [], (-1), 0),
  (13, .ireturn, 1, [], 0, 0),
  (14, .iconst 0, 1, [], 0, 0),
  (15, .istore_n 2, 1, [], 0, 0),
  (16, .bipush (-4), 2, [], (-4), 0),
  (18, .istore_n 3, 1, [], 0, 0),
  (19, .iconst 1, 1, [], 1, 0),
  (20, .aload_n 0, 1, [], 0, 0),
  (21, .invokevirtual 214, 3, [], 0, 0),
  (24, .ishl, 1, [], 0, 0),
  (25, .iconst 1, 1, [], 1, 0),
  (26, .isub, 1, [], 0, 0),
  (27, .istore 4, 2, [], 0, 0),
  (29, .iload 4, 2, [], 0, 0),
  (31, .istore 5, 2, [], 0, 0),
  (33, .iconst 0, 1, [], 0, 0),
  (34, .istore 6, 2, [], 0, 0),
  (36, .iconst 0, 1, [], 0, 0),
  (37, .istore 7, 2, [], 0, 0),
  (39, .iload 7, 2, [], 0, 0),
  (41, .iload 4, 2, [], 0, 0),
  (43, .if_icmp .gt 46, 3, [(0, 89)], 0, 0),
  (46, .aload_n 0, 1, [], 0, 0),
  (47, .iload 7, 2, [], 0, 0),
  (49, .invokevirtual 258, 3, [], 0, 0),
  (52, .ifCond .eq 31, 3, [(0, 83)], 0, 0),
  (55, .iload_n 2, 1, [], 0, 0),
  (56, .ifCond .ne 8, 3, [(0, 64)], 0, 0),
  (59, .iload 7, 2, [], 0, 0),
  (61, .goto 4, 3, [(0, 65)], 0, 0),
  (64, .iload_n 3, 1, [], 0, 0),
  (65, .istore_n 3, 1, [], 0, 0),
  (66, .iload 5, 2, [], 0, 0),
  (68, .iload 7, 2, [], 0, 0),
  (70, .iand, 1, [], 0, 0),
  (71, .istore 5, 2, [], 0, 0),
  (73, .iload 6, 2, [], 0, 0),
  (75, .iload 7, 2, [], 0, 0),
  (77, .ior, 1, [], 0, 0),
  (78, .istore 6, 2, [], 0, 0),
  (80, .iinc 2 1, 3, [], 1, 0),
  (83, .iinc 7 1, 3, [], 1, 0),
  (86, .goto (-47), 3, [(0, 39)], 0, 0),
  (89, .iload_n 1, 1, [], 0, 0),
  (90, .ifCond .eq 7, 3, [(0, 97)], 0, 0),
  (93, .iload_n 2, 1, [], 0, 0),
  (94, .ifCond .ne 14, 3, [(0, 108)], 0, 0),
  (97, .iload_n 1, 1, [], 0, 0),
  (98, .ifCond .ne 7, 3, [(0, 105)], 0, 0),
  (101, .iload_n 2, 1, [], 0, 0),
  (102, .goto 5, 3, [(0, 107)], 0, 0),
  (105, .bipush (-4), 2, [], (-4), 0),
  (107, .ireturn, 1, [], 0, 0),
  (108, .iload_n 1, 1, [], 0, 0),
  (109, .iconst 1, 1, [], 1, 0),
  (110, .if_icmp .ne 7, 3, [(0, 117)], 0, 0),
  (113, .iload_n 3, 1, [], 0, 0),
  (114, .goto 20, 3, [(0, 134)], 0, 0),
  (117, .iload_n 1, 1, [], 0, 0),
  (118, .iconst 2, 1, [], 2, 0),
  (119, .if_icmp .ne 8, 3, [(0, 127)], 0, 0),
  (122, .iload 5, 2, [], 0, 0),
  (124, .goto 10, 3, [(0, 134)], 0, 0),
  (127, .iload 4, 2, [], 0, 0),
  (129, .iload 6, 2, [], 0, 0),
  (131, .iconst (-1), 1, [], (-1), 0),
  (132, .ixor, 1, [], 0, 0),
  (133, .iand, 1, [], 0, 0),
  (134, .aload_n 0, 1, [], 0, 0),
  (135, .getfield 7, 3, [], 0, 0),
  (138, .bipush 88, 2, [], 88, 0),
  (140, .iaload, 1, [], 0, 0),
  (141, .ishl, 1, [], 0, 0),
  (142, .ireturn, 1, [], 0, 0)]
def bt_TX6_could : List bt_E := [
  (0, .iconst 0, 1, [], 0, 0),
  (1, .istore_n 1, 1, [], 0, 0),
  (2, .iconst 0, 1, [], 0, 0),
  (3, .istore_n 2, 1, [], 0, 0),
  (4, .iload_n 2, 1, [], 0, 0),
  (5, .iconst 1, 1, [], 1, 0),
  (6, .aload_n 0, 1, [], 0, 0),
  (7, .invokevirtual 214, 3, [], 0, 0),
  (10, .ishl, 1, [], 0, 0),
  (11, .if_icmp .ge 31, 3, [(0, 42)], 0, 0),
  (14, .iload_n 1, 1, [], 0, 0),
  (15, .aload_n 0, 1, [], 0, 0),
  (16, .iload_n 2, 1, [], 0, 0),
  (17, .invokevirtual 258, 3, [], 0, 0),
  (20, .ifCond .eq 13, 3, [(0, 33)], 0, 0),
  (23, .aload_n 0, 1, [], 0, 0),
  (24, .sipush 360, 3, [], 360, 0),
  (27, .invokevirtual 146, 3, [], 0, 0),
  (30, .goto 4, 3, [(0, 34)], 0, 0),
  (33, .iconst 0, 1, [], 0, 0),
  (34, .ior, 1, [], 0, 0),
  (35, .istore_n 1, 1, [], 0, 0),
  (36, .iinc 2 1, 3, [], 1, 0),
  (39, .goto (-35), 3, [(0, 4)], 0, 0),
  (42, .iload_n 1, 1, [], 0, 0),
  (43, .ireturn, 1, [], 0, 0)]
def bt_TX6_drift : List bt_E := [
  (0, .iload_n 2, 1, [], 0, 0),
  (1, .i2l, 1, [], 0, 0),
  (2, .lconst 0, 1, [], 0, 0),
  (3, .lconst 1, 1, [], 0, 1),
  (4, .invokestatic 46, 3, [], 0, 0),
  (7, .ifCond .ne 5, 3, [(0, 12)], 0, 0),
  (10, .iconst (-1), 1, [], (-1), 0),
  (11, .ireturn, 1, [], 0, 0),
  (12, .aload_n 0, 1, [], 0, 0),
  (13, .iconst 0, 1, [], 0, 0),
  (14, .sipush 360, 3, [], 360, 0),
  (17, .invokevirtual 199, 3, [], 0, 0),
  (20, .iload_n 1, 1, [], 0, 0),
  (21, .istore_n 3, 1, [], 0, 0),
  (22, .aload_n 0, 1, [], 0, 0),
  (23, .sipush 360, 3, [], 360, 0),
  (26, .invokevirtual 187, 3, [], 0, 0),
  (29, .ifCond .eq 35, 3, [(0, 64)], 0, 0),
  (32, .iload_n 3, 1, [], 0, 0),
  (33, .ldc_w 261, 3, [], 1103515245, 0),
  (36, .imul, 1, [], 0, 0),
  (37, .sipush 12345, 3, [], 12345, 0),
  (40, .iadd, 1, [], 0, 0),
  (41, .istore_n 3, 1, [], 0, 0),
  (42, .aload_n 0, 1, [], 0, 0),
  (43, .sipush 360, 3, [], 360, 0),
  (46, .iload_n 3, 1, [], 0, 0),
  (47, .bipush 16, 2, [], 16, 0),
  (49, .ishr, 1, [], 0, 0),
  (50, .sipush 32767, 3, [], 32767, 0),
  (53, .iand, 1, [], 0, 0),
  (54, .bipush 10, 2, [], 10, 0),
  (56, .irem, 1, [], 0, 0),
  (57, .invokevirtual 190, 3, [], 0, 0),
  (60, .pop, 1, [], 0, 0),
  (61, .goto (-39), 3, [(0, 22)], 0, 0),
  (64, .iload_n 2, 1, [], 0, 0),
  (65, .ifCond .ne 13, 3, [(0, 78)], 0, 0),
  (68, .aload_n 0, 1, [], 0, 0),
  (69, .sipush 360, 3, [], 360, 0),
  (72, .invokevirtual 208, 3, [], 0, 0),
  (75, .goto 10, 3, [(0, 85)], 0, 0),
  (78, .aload_n 0, 1, [], 0, 0),
  (79, .sipush 360, 3, [], 360, 0),
  (82, .invokevirtual 146, 3, [], 0, 0),
  (85, .ireturn, 1, [], 0, 0)]
def bt_TX6_keep : List bt_E := [
  (0, .iload_n 1, 1, [], 0, 0),
  (1, .i2l, 1, [], 0, 0),
  (2, .lconst 0, 1, [], 0, 0),
  (3, .lconst 1, 1, [], 0, 1),
  (4, .invokestatic 46, 3, [], 0, 0),
  (7, .ifCond .ne 5, 3, [(0, 12)], 0, 0),
  (10, .iconst (-1), 1, [], (-1), 0),
  (11, .ireturn, 1, [], 0, 0),
  (12, .aload_n 0, 1, [], 0, 0),
  (13, .iconst 0, 1, [], 0, 0),
  (14, .bipush 90, 2, [], 90, 0),
  (16, .iload_n 1, 1, [], 0, 0),
  (17, .iconst 1, 1, [], 1, 0),
  (18, .iadd, 1, [], 0, 0),
  (19, .imul, 1, [], 0, 0),
  (20, .invokevirtual 199, 3, [], 0, 0),
  (23, .aload_n 0, 1, [], 0, 0),
  (24, .getfield 31, 3, [], 0, 0),
  (27, .iload_n 1, 1, [], 0, 0),
  (28, .baload, 1, [], 0, 0),
  (29, .ifCond .eq 7, 3, [(0, 36)], 0, 0),
  (32, .iconst 1, 1, [], 1, 0),
  (33, .goto 4, 3, [(0, 37)], 0, 0),
  (36, .iconst 0, 1, [], 0, 0),
  (37, .istore_n 2, 1, [], 0, 0),
  (38, .aload_n 0, 1, [], 0, 0),
  (39, .getfield 31, 3, [], 0, 0),
  (42, .iload_n 1, 1, [], 0, 0),
  (43, .iconst 1, 1, [], 1, 0),
  (44, .bastore, 1, [], 0, 0),
  (45, .iload_n 2, 1, [], 0, 0),
  (46, .ireturn, 1, [], 0, 0)]
def bt_TX6_back : List bt_E := [
  (0, .iload_n 1, 1, [], 0, 0),
  (1, .i2l, 1, [], 0, 0),
  (2, .lconst 0, 1, [], 0, 0),
  (3, .lconst 1, 1, [], 0, 1),
  (4, .invokestatic 46, 3, [], 0, 0),
  (7, .ifCond .ne 5, 3, [(0, 12)], 0, 0),
  (10, .iconst (-1), 1, [], (-1), 0),
  (11, .ireturn, 1, [], 0, 0),
  (12, .aload_n 0, 1, [], 0, 0),
  (13, .getfield 31, 3, [], 0, 0),
  (16, .iload_n 1, 1, [], 0, 0),
  (17, .baload, 1, [], 0, 0),
  (18, .ifCond .ne 6, 3, [(0, 24)], 0, 0),
  (21, .bipush (-2), 2, [], (-2), 0),
  (23, .ireturn, 1, [], 0, 0),
  (24, .aload_n 0, 1, [], 0, 0),
  (25, .bipush 90, 2, [], 90, 0),
  (27, .iload_n 1, 1, [], 0, 0),
  (28, .iconst 1, 1, [], 1, 0),
  (29, .iadd, 1, [], 0, 0),
  (30, .imul, 1, [], 0, 0),
  (31, .iconst 0, 1, [], 0, 0),
  (32, .invokevirtual 199, 3, [], 0, 0),
  (35, .aload_n 0, 1, [], 0, 0),
  (36, .getfield 7, 3, [], 0, 0),
  (39, .bipush 88, 2, [], 88, 0),
  (41, .iaload, 1, [], 0, 0),
  (42, .ireturn, 1, [], 0, 0)]
def bt_TX6_sheet : List bt_E := [
  (0, .iload_n 1, 1, [], 0, 0),
  (1, .i2l, 1, [], 0, 0),
  (2, .lconst 0, 1, [], 0, 0),
  (3, .ldc2_w 256, 3, [], 0, 3),
  (6, .invokestatic 46, 3, [], 0, 0),
  (9, .ifCond .eq 21, 3, [(0, 30)], 0, 0),
  (12, .iload_n 2, 1, [], 0, 0),
  (13, .i2l, 1, [], 0, 0),
  (14, .lconst 0, 1, [], 0, 0),
  (15, .ldc2_w 173, 3, [], 0, 2),
  (18, .invokestatic 46, 3, [], 0, 0),
  (21, .ifCond .eq 9, 3, [(0, 30)], 0, 0),
  (24, .iload_n 3, 1, [], 0, 0),
  (25, .bipush 40, 2, [], 40, 0),
  (27, .if_icmp .le 5, 3, [(0, 32)], 0, 0),
  (30, .iconst (-1), 1, [], (-1), 0),
  (31, .ireturn, 1, [], 0, 0),
  (32, .iload_n 3, 1, [], 0, 0),
  (33, .ifCond .ge 6, 3, [(0, 39)], 0, 0),
  (36, .bipush (-14), 2, [], (-14), 0),
  (38, .ireturn, 1, [], 0, 0),
  (39, .aload_n 0, 1, [], 0, 0),
  (40, .getfield 35, 3, [], 0, 0),
  (43, .iload_n 1, 1, [], 0, 0),
  (44, .iload_n 2, 1, [], 0, 0),
  (45, .iastore, 1, [], 0, 0),
  (46, .aload_n 0, 1, [], 0, 0),
  (47, .getfield 38, 3, [], 0, 0),
  (50, .iload_n 1, 1, [], 0, 0),
  (51, .iload_n 3, 1, [], 0, 0),
  (52, .iastore, 1, [], 0, 0),
  (53, .iconst 0, 1, [], 0, 0),
  (54, .istore 4, 2, [], 0, 0),
  (56, .iload 4, 2, [], 0, 0),
  (58, .bipush 40, 2, [], 40, 0),
  (60, .if_icmp .ge 22, 3, [(0, 82)], 0, 0),
  (63, .aload_n 0, 1, [], 0, 0),
  (64, .getfield 41, 3, [], 0, 0),
  (67, .bipush 40, 2, [], 40, 0),
  (69, .iload_n 1, 1, [], 0, 0),
  (70, .imul, 1, [], 0, 0),
  (71, .iload 4, 2, [], 0, 0),
  (73, .iadd, 1, [], 0, 0),
  (74, .iconst 0, 1, [], 0, 0),
  (75, .iastore, 1, [], 0, 0),
  (76, .iinc 4 1, 3, [], 1, 0),
  (79, .goto (-23), 3, [(0, 56)], 0, 0),
  (82, .iconst 1, 1, [], 1, 0),
  (83, .ireturn, 1, [], 0, 0)]
def bt_TX6_lay : List bt_E := [
  (0, .iload_n 1, 1, [], 0, 0),
  (1, .i2l, 1, [], 0, 0),
  (2, .lconst 0, 1, [], 0, 0),
  (3, .ldc2_w 256, 3, [], 0, 3),
  (6, .invokestatic 46, 3, [], 0, 0),
  (9, .ifCond .ne 5, 3, [(0, 14)], 0, 0),
  (12, .iconst (-1), 1, [], (-1), 0),
  (13, .ireturn, 1, [], 0, 0),
  (14, .aload_n 0, 1, [], 0, 0),
  (15, .getfield 35, 3, [], 0, 0),
  (18, .iload_n 1, 1, [], 0, 0),
  (19, .iaload, 1, [], 0, 0),
  (20, .bipush (-4), 2, [], (-4), 0),
  (22, .if_icmp .ne 6, 3, [(0, 28)], 0, 0),
  (25, .bipush (-11), 2, [], (-11), 0),
  (27, .ireturn, 1, [], 0, 0),
  (28, .iload_n 2, 1, [], 0, 0),
  (29, .i2l, 1, [], 0, 0),
  (30, .lconst 0, 1, [], 0, 0),
  (31, .aload_n 0, 1, [], 0, 0),
  (32, .getfield 38, 3, [], 0, 0),
  (35, .iload_n 1, 1, [], 0, 0),
  (36, .iaload, 1, [], 0, 0),
  (37, .iconst 1, 1, [], 1, 0),
  (38, .isub, 1, [], 0, 0),
  (39, .i2l, 1, [], 0, 0),
  (40, .invokestatic 46, 3, [], 0, 0),
  (43, .ifCond .ne 6, 3, [(0, 49)], 0, 0),
  (46, .bipush (-12), 2, [], (-12), 0),
  (48, .ireturn, 1, [], 0, 0),
  (49, .aload_n 0, 1, [], 0, 0),
  (50, .getfield 41, 3, [], 0, 0),
  (53, .bipush 40, 2, [], 40, 0),
  (55, .iload_n 1, 1, [], 0, 0),
  (56, .imul, 1, [], 0, 0),
  (57, .iload_n 2, 1, [], 0, 0),
  (58, .iadd, 1, [], 0, 0),
  (59, .aload_n 0, 1, [], 0, 0),
  (60, .getfield 35, 3, [], 0, 0),
  (63, .iload_n 1, 1, [], 0, 0),
  (64, .iaload, 1, [], 0, 0),
  (65, .ifCond .ne 13, 3, [(0, 78)], 0, 0),
  (68, .iload_n 3, 1, [], 0, 0),
  (69, .bipush 24, 2, [], 24, 0),
  (71, .ishl, 1, [], 0, 0),
  (72, .bipush 24, 2, [], 24, 0),
  (74, .ishr, 1, [], 0, 0),
  (75, .goto 24, 3, [(0, 99)], 0, 0),
  (78, .aload_n 0, 1, [], 0, 0),
  (79, .getfield 35, 3, [], 0, 0),
  (82, .iload_n 1, 1, [], 0, 0),
  (83, .iaload, 1, [], 0, 0),
  (84, .iconst 1, 1, [], 1, 0),
  (85, .if_icmp .ne 13, 3, [(0, 98)], 0, 0),
  (88, .iload_n 3, 1, [], 0, 0),
  (89, .bipush 16, 2, [], 16, 0),
  (91, .ishl, 1, [], 0, 0),
  (92, .bipush 16, 2, [], 16, 0),
  (94, .ishr, 1, [], 0, 0),
  (95, .goto 4, 3, [(0, 99)], 0, 0),
  (98, .iload_n 3, 1, [], 0, 0),
  (99, .iastore, 1, [], 0, 0),
  (100, .iconst 1, 1, [], 1, 0),
  (101, .ireturn, 1, [], 0, 0)]
def bt_TX6_read : List bt_E := [
  (0, .iload_n 1, 1, [], 0, 0),
  (1, .i2l, 1, [], 0, 0),
  (2, .lconst 0, 1, [], 0, 0),
  (3, .ldc2_w 256, 3, [], 0, 3),
  (6, .invokestatic 46, 3, [], 0, 0),
  (9, .ifCond .eq 28, 3, [(0, 37)], 0, 0),
  (12, .iload_n 2, 1, [], 0, 0),
  (13, .i2l, 1, [], 0, 0),
  (14, .lconst 0, 1, [], 0, 0),
  (15, .ldc2_w 173, 3, [], 0, 2),
  (18, .invokestatic 46, 3, [], 0, 0),
  (21, .ifCond .eq 16, 3, [(0, 37)], 0, 0),
  (24, .iload 4, 2, [], 0, 0),
  (26, .i2l, 1, [], 0, 0),
  (27, .lconst 0, 1, [], 0, 0),
  (28, .ldc2_w 262, 3, [], 0, 20),
  (31, .invokestatic 46, 3, [], 0, 0),
  (34, .ifCond .ne 5, 3, [(0, 39)], 0, 0),
  (37, .iconst (-1), 1, [], (-1), 0),
  (38, .ireturn, 1, [], 0, 0),
  (39, .aload_n 0, 1, [], 0, 0),
  (40, .iconst 0, 1, [], 0, 0),
  (41, .sipush 270, 3, [], 270, 0),
  (44, .invokevirtual 199, 3, [], 0, 0),
  (47, .iconst 0, 1, [], 0, 0),
  (48, .istore 5, 2, [], 0, 0),
  (50, .iconst 0, 1, [], 0, 0),
  (51, .istore 6, 2, [], 0, 0),
  (53, .iload 6, 2, [], 0, 0),
  (55, .iload 4, 2, [], 0, 0),
  (57, .if_icmp .ge 112, 3, [(0, 169)], 0, 0),
  (60, .iload 5, 2, [], 0, 0),
  (62, .ifCond .ne 107, 3, [(0, 169)], 0, 0),
  (65, .aload_n 0, 1, [], 0, 0),
  (66, .getfield 35, 3, [], 0, 0),
  (69, .iload_n 1, 1, [], 0, 0),
  (70, .iaload, 1, [], 0, 0),
  (71, .bipush (-4), 2, [], (-4), 0),
  (73, .if_icmp .ne 7, 3, [(0, 80)], 0, 0),
  (76, .iconst 1, 1, [], 1, 0),
  (77, .goto 44, 3, [(0, 121)], 0, 0),
  (80, .aload_n 0, 1, [], 0, 0),
  (81, .getfield 35, 3, [], 0, 0),
  (84, .iload_n 1, 1, [], 0, 0),
  (85, .iaload, 1, [], 0, 0),
  (86, .iload_n 2, 1, [], 0, 0),
  (87, .if_icmp .eq 7, 3, [(0, 94)], 0, 0),
  (90, .iconst 3, 1, [], 3, 0),
  (91, .goto 30, 3, [(0, 121)], 0, 0),
  (94, .iload_n 3, 1, [], 0, 0),
  (95, .i2l, 1, [], 0, 0),
  (96, .iload 6, 2, [], 0, 0),
  (98, .i2l, 1, [], 0, 0),
  (99, .ladd, 1, [], 0, 0),
  (100, .lconst 0, 1, [], 0, 0),
  (101, .aload_n 0, 1, [], 0, 0),
  (102, .getfield 38, 3, [], 0, 0),
  (105, .iload_n 1, 1, [], 0, 0),
  (106, .iaload, 1, [], 0, 0),
  (107, .iconst 1, 1, [], 1, 0),
  (108, .isub, 1, [], 0, 0),
  (109, .i2l, 1, [], 0, 0),
  (110, .invokestatic 46, 3, [], 0, 0),
  (113, .ifCond .ne 7, 3, [(0, 120)], 0, 0),
  (116, .iconst 2, 1, [], 2, 0),
  (117, .goto 4, 3, [(0, 121)], 0, 0),
  (120, .iconst 0, 1, [], 0, 0),
  (121, .istore 5, 2, [], 0, 0),
  (123, .iload 5, 2, [], 0, 0),
  (125, .ifCond .ne (-72), 3, [(0, 53)], 0, 0),
  (128, .aload_n 0, 1, [], 0, 0),
  (129, .aload_n 0, 1, [], 0, 0),
  (130, .getfield 41, 3, [], 0, 0),
  (133, .bipush 40, 2, [], 40, 0),
  (135, .iload_n 1, 1, [], 0, 0),
  (136, .imul, 1, [], 0, 0),
  (137, .iload_n 3, 1, [], 0, 0),
  (138, .iadd, 1, [], 0, 0),
  (139, .iload 6, 2, [], 0, 0),
  (141, .iadd, 1, [], 0, 0),
  (142, .iaload, 1, [], 0, 0),
  (143, .invokevirtual 193, 3, [], 0, 0),
  (146, .ifCond .ge 17, 3, [(0, 163)], 0, 0),
  (149, .aload_n 0, 1, [], 0, 0),
  (150, .sipush 270, 3, [], 270, 0),
  (153, .iconst 0, 1, [], 0, 0),
  (154, .invokevirtual 199, 3, [], 0, 0),
  (157, .bipush (-20), 2, [], (-20), 0),
  (159, .iload 6, 2, [], 0, 0),
  (161, .isub, 1, [], 0, 0),
  (162, .ireturn, 1, [], 0, 0),
  (163, .iinc 6 1, 3, [], 1, 0),
  (166, .goto (-113), 3, [(0, 53)], 0, 0),
  (169, .aload_n 0, 1, [], 0, 0),
  (170, .iload 5, 2, [], 0, 0),
  (172, .putfield 264, 3, [], 0, 0),
  (175, .iload 6, 2, [], 0, 0),
  (177, .ireturn, 1, [], 0, 0)]
def bt_TX6_torn : List bt_E := [
  (0, .aload_n 0, 1, [], 0, 0),
  (1, .getfield 264, 3, [], 0, 0),
  (4, .ireturn, 1, [], 0, 0)]
def bt_TX6_count : List bt_E := [
  (0, .iload_n 1, 1, [], 0, 0),
  (1, .tableswitch 126 0 6 #[43, 48, 78, 83, 106, 115, 120], 43, [(0, 127), (0, 44), (1, 49), (2, 79), (3, 84), (4, 107), (5, 116), (6, 121)], 0, 0),
  (44, .aload_n 0, 1, [], 0, 0),
  (45, .getfield 136, 3, [], 0, 0),
  (48, .ireturn, 1, [], 0, 0),
  (49, .aload_n 0, 1, [], 0, 0),
  (50, .getfield 31, 3, [], 0, 0),
  (53, .iconst 0, 1, [], 0, 0),
  (54, .baload, 1, [], 0, 0),
  (55, .ifCond .eq 7, 3, [(0, 62)], 0, 0),
  (58, .iconst 1, 1, [], 1, 0),
  (59, .goto 4, 3, [(0, 63)], 0, 0),
  (62, .iconst 0, 1, [], 0, 0),
  (63, .aload_n 0, 1, [], 0, 0),
  (64, .getfield 31, 3, [], 0, 0),
  (67, .iconst 1, 1, [], 1, 0),
  (68, .baload, 1, [], 0, 0),
  (69, .ifCond .eq 7, 3, [(0, 76)], 0, 0),
  (72, .iconst 1, 1, [], 1, 0),
  (73, .goto 4, 3, [(0, 77)], 0, 0),
  (76, .iconst 0, 1, [], 0, 0),
  (77, .iadd, 1, [], 0, 0),
  (78, .ireturn, 1, [], 0, 0),
  (79, .aload_n 0, 1, [], 0, 0),
  (80, .getfield 50, 3, [], 0, 0),
  (83, .ireturn, 1, [], 0, 0),
  (84, .aload_n 0, 1, [], 0, 0),
  (85, .getfield 35, 3, [], 0, 0),
  (88, .iconst 0, 1, [], 0, 0),
  (89, .iaload, 1, [], 0, 0),
  (90, .bipush (-4), 2, [], (-4), 0),
  (92, .if_icmp .ne 8, 3, [(0, 100)], 0, 0),
  (95, .bipush (-4), 2, [], (-4), 0),
  (97, .goto 9, 3, [(0, 106)], 0, 0),
  (100, .aload_n 0, 1, [], 0, 0),
  (101, .getfield 38, 3, [], 0, 0),
  (104, .iconst 0, 1, [], 0, 0),
  (105, .iaload, 1, [], 0, 0),
  (106, .ireturn, 1, [], 0, 0),
  (107, .aload_n 0, 1, [], 0, 0),
  (108, .iconst 0, 1, [], 0, 0),
  (109, .invokevirtual 146, 3, [], 0, 0),
  (112, .invokestatic 181, 3, [], 0, 0),
  (115, .ireturn, 1, [], 0, 0),
  (116, .aload_n 0, 1, [], 0, 0),
  (117, .invokevirtual 211, 3, [], 0, 0),
  (120, .ireturn, 1, [], 0, 0),
  (121, .aload_n 0, 1, [], 0, 0),
  (122, .iconst 0, 1, [], 0, 0),
  (123, .invokevirtual 208, 3, [], 0, 0),
  (126, .ireturn, 1, [], 0, 0),
  (127, .iconst (-1), 1, [], (-1), 0),
  (128, .ireturn, 1, [], 0, 0)]
def bt_TJ6_numberOfTrailingZeros_0f7a4 : List bt_E := [
  (0, .iload_n 0, 1, [], 0, 0),
  (1, .iconst (-1), 1, [], (-1), 0),
  (2, .ixor, 1, [], 0, 0),
  (3, .iload_n 0, 1, [], 0, 0),
  (4, .iconst 1, 1, [], 1, 0),
  (5, .isub, 1, [], 0, 0),
  (6, .iand, 1, [], 0, 0),
  (7, .istore_n 0, 1, [], 0, 0),
  (8, .iload_n 0, 1, [], 0, 0),
  (9, .ifCond .gt 8, 3, [(0, 17)], 0, 0),
  (12, .iload_n 0, 1, [], 0, 0),
  (13, .bipush 32, 2, [], 32, 0),
  (15, .iand, 1, [], 0, 0),
  (16, .ireturn, 1, [], 0, 0),
  (17, .iconst 1, 1, [], 1, 0),
  (18, .istore_n 1, 1, [], 0, 0),
  (19, .iload_n 0, 1, [], 0, 0),
  (20, .ldc_w 264, 3, [], 65536, 0),
  (23, .if_icmp .le 11, 3, [(0, 34)], 0, 0),
  (26, .iinc 1 16, 3, [], 16, 0),
  (29, .iload_n 0, 1, [], 0, 0),
  (30, .bipush 16, 2, [], 16, 0),
  (32, .iushr, 1, [], 0, 0),
  (33, .istore_n 0, 1, [], 0, 0),
  (34, .iload_n 0, 1, [], 0, 0),
  (35, .sipush 256, 3, [], 256, 0),
  (38, .if_icmp .le 11, 3, [(0, 49)], 0, 0),
  (41, .iinc 1 8, 3, [], 8, 0),
  (44, .iload_n 0, 1, [], 0, 0),
  (45, .bipush 8, 2, [], 8, 0),
  (47, .iushr, 1, [], 0, 0),
  (48, .istore_n 0, 1, [], 0, 0),
  (49, .iload_n 0, 1, [], 0, 0),
  (50, .bipush 16, 2, [], 16, 0),
  (52, .if_icmp .le 10, 3, [(0, 62)], 0, 0),
  (55, .iinc 1 4, 3, [], 4, 0),
  (58, .iload_n 0, 1, [], 0, 0),
  (59, .iconst 4, 1, [], 4, 0),
  (60, .iushr, 1, [], 0, 0),
  (61, .istore_n 0, 1, [], 0, 0),
  (62, .iload_n 0, 1, [], 0, 0),
  (63, .iconst 4, 1, [], 4, 0),
  (64, .if_icmp .le 10, 3, [(0, 74)], 0, 0),
  (67, .iinc 1 2, 3, [], 2, 0),
  (70, .iload_n 0, 1, [], 0, 0),
  (71, .iconst 2, 1, [], 2, 0),
  (72, .iushr, 1, [], 0, 0),
  (73, .istore_n 0, 1, [], 0, 0),
  (74, .iload_n 1, 1, [], 0, 0),
  (75, .iload_n 0, 1, [], 0, 0),
  (76, .iconst 1, 1, [], 1, 0),
  (77, .iushr, 1, [], 0, 0),
  (78, .iadd, 1, [], 0, 0),
  (79, .ireturn, 1, [], 0, 0)]
def bt_TJ6_bitCount_0f7a4 : List bt_E := [
  (0, .iload_n 0, 1, [], 0, 0),
  (1, .iload_n 0, 1, [], 0, 0),
  (2, .iconst 1, 1, [], 1, 0),
  (3, .iushr, 1, [], 0, 0),
  (4, .ldc_w 265, 3, [], 1431655765, 0),
  (7, .iand, 1, [], 0, 0),
  (8, .isub, 1, [], 0, 0),
  (9, .istore_n 0, 1, [], 0, 0),
  (10, .iload_n 0, 1, [], 0, 0),
  (11, .ldc_w 266, 3, [], 858993459, 0),
  (14, .iand, 1, [], 0, 0),
  (15, .iload_n 0, 1, [], 0, 0),
  (16, .iconst 2, 1, [], 2, 0),
  (17, .iushr, 1, [], 0, 0),
  (18, .ldc_w 266, 3, [], 858993459, 0),
  (21, .iand, 1, [], 0, 0),
  (22, .iadd, 1, [], 0, 0),
  (23, .istore_n 0, 1, [], 0, 0),
  (24, .iload_n 0, 1, [], 0, 0),
  (25, .iload_n 0, 1, [], 0, 0),
  (26, .iconst 4, 1, [], 4, 0),
  (27, .iushr, 1, [], 0, 0),
  (28, .iadd, 1, [], 0, 0),
  (29, .ldc_w 267, 3, [], 252645135, 0),
  (32, .iand, 1, [], 0, 0),
  (33, .istore_n 0, 1, [], 0, 0),
  (34, .iload_n 0, 1, [], 0, 0),
  (35, .iload_n 0, 1, [], 0, 0),
  (36, .bipush 8, 2, [], 8, 0),
  (38, .iushr, 1, [], 0, 0),
  (39, .iadd, 1, [], 0, 0),
  (40, .istore_n 0, 1, [], 0, 0),
  (41, .iload_n 0, 1, [], 0, 0),
  (42, .iload_n 0, 1, [], 0, 0),
  (43, .bipush 16, 2, [], 16, 0),
  (45, .iushr, 1, [], 0, 0),
  (46, .iadd, 1, [], 0, 0),
  (47, .istore_n 0, 1, [], 0, 0),
  (48, .iload_n 0, 1, [], 0, 0),
  (49, .bipush 63, 2, [], 63, 0),
  (51, .iand, 1, [], 0, 0),
  (52, .ireturn, 1, [], 0, 0)]
def bt_TJ9_max_7cf53 : List bt_E := [
  (0, .iload_n 0, 1, [], 0, 0),
  (1, .iload_n 1, 1, [], 0, 0),
  (2, .if_icmp .lt 7, 3, [(0, 9)], 0, 0),
  (5, .iload_n 0, 1, [], 0, 0),
  (6, .goto 4, 3, [(0, 10)], 0, 0),
  (9, .iload_n 1, 1, [], 0, 0),
  (10, .ireturn, 1, [], 0, 0)]
def bt_TJ9_max_f86c9 : List bt_E := [
  (0, .lload_n 0, 1, [], 0, 0),
  (1, .lload_n 2, 1, [], 0, 0),
  (2, .lcmp, 1, [], 0, 0),
  (3, .ifCond .lt 7, 3, [(0, 10)], 0, 0),
  (6, .lload_n 0, 1, [], 0, 0),
  (7, .goto 4, 3, [(0, 11)], 0, 0),
  (10, .lload_n 2, 1, [], 0, 0),
  (11, .lreturn, 1, [], 0, 0)]
def bt_TJ9_min_7cf53 : List bt_E := [
  (0, .iload_n 0, 1, [], 0, 0),
  (1, .iload_n 1, 1, [], 0, 0),
  (2, .if_icmp .gt 7, 3, [(0, 9)], 0, 0),
  (5, .iload_n 0, 1, [], 0, 0),
  (6, .goto 4, 3, [(0, 10)], 0, 0),
  (9, .iload_n 1, 1, [], 0, 0),
  (10, .ireturn, 1, [], 0, 0)]
end
section
/-! SOUNDNESS: locals -/
def bt_lp (f : Value → Value) : Nat → bt_L → List (Nat × Value)
  | _, [] => []
  | i, none :: t => bt_lp f (i + 1) t
  | i, some v :: t => (i, f v) :: bt_lp f (i + 1) t
theorem bt_lp_ge (f : Value → Value) : ∀ (L : bt_L) (o : Nat) (q : Nat × Value), q ∈ bt_lp f o L → o ≤ q.1
  | [], _, _, h => by simp [bt_lp] at h
  | none :: t, o, q, h => by
    have := bt_lp_ge f t (o + 1) q h
    omega
  | some v :: t, o, q, h => by
    rcases List.mem_cons.mp h with rfl | h
    · exact Nat.le_refl _
    · have := bt_lp_ge f t (o + 1) q h
      omega
theorem bt_lp_tl (f : Value → Value) {x : Option Value} {t : bt_L} {o : Nat} {q : Nat × Value} (h : q ∈ bt_lp f (o + 1) t) : q ∈ bt_lp f o (x :: t) := by
  cases x with
  | none => exact h
  | some v => exact List.mem_cons_of_mem _ h
theorem bt_lg_s (f : Value → Value) : ∀ (L : bt_L) (i o : Nat) (k : Value → Prop), bt_lg L i k → ∃ v, k v ∧ (o + i, f v) ∈ bt_lp f o L
  | [], _, _, _, h => False.elim h
  | x :: t, 0, o, k, h => by
    cases x with
    | none => exact False.elim h
    | some v => exact ⟨v, h, List.mem_cons_self⟩
  | x :: t, n + 1, o, k, h => by
    obtain ⟨v, hv, hm⟩ := bt_lg_s f t n (o + 1) k h
    refine ⟨v, hv, bt_lp_tl f ?_⟩
    rw [show o + (n + 1) = o + 1 + n by omega]
    exact hm
theorem bt_c1_cat {v : Value} (h : bt_c1 v = true) : v.category = 1 := by cases v <;> first | rfl | cases h
theorem bt_c1_cat2 {v : Value} (h : bt_c1 v = false) : v.category = 2 := by cases v <;> first | rfl | cases h
theorem bt_tr_cat (ad fa : Nat → Nat) (v : Value) : (bt_tr ad fa v).category = v.category := by cases v <;> rfl
theorem bt_ls_s (f : Value → Value) (hf : ∀ v, (f v).category = v.category) : ∀ (L : bt_L) (i o : Nat) (v : Value) (k : bt_L → Prop), bt_ls L i v k → ∃ L', k L' ∧ i < L.length ∧ L'.length = L.length ∧ ∀ q ∈ bt_lp f o L', q = (o + i, f v) ∨ (q ∈ bt_lp f o L ∧ q.1 ≠ o + i ∧ ¬ (q.1 + 1 = o + i ∧ q.2.category = 2))
  | [], _, _, _, _, h => False.elim h
  | x :: t, 0, o, v, k, h => by
    refine ⟨some v :: t, h, by simp, by simp, fun q hq => ?_⟩
    rcases List.mem_cons.mp hq with rfl | hq
    · exact Or.inl rfl
    · have := bt_lp_ge f t (o + 1) q hq
      exact Or.inr ⟨bt_lp_tl f hq, by omega, by omega⟩
  | x :: [], 1, o, v, k, h => by
    cases hx : bt_o1 x <;> simp [bt_ls, hx] at h
  | x :: y :: t, 1, o, v, k, h => by
    cases hx : bt_o1 x with
    | false => simp [bt_ls, hx] at h
    | true =>
      have h : k (x :: some v :: t) := by simpa [bt_ls, hx] using h
      refine ⟨_, h, by simp, by simp, fun q hq => ?_⟩
      cases x with
      | none =>
        rcases List.mem_cons.mp (show q ∈ (o + 1, f v) :: bt_lp f (o + 1 + 1) t from hq) with rfl | hq
        · exact Or.inl rfl
        · have := bt_lp_ge f t _ q hq
          exact Or.inr ⟨bt_lp_tl f (bt_lp_tl f hq), by omega, by omega⟩
      | some w =>
        rcases List.mem_cons.mp (show q ∈ (o, f w) :: (o + 1, f v) :: bt_lp f (o + 1 + 1) t from hq) with rfl | hq
        · refine Or.inr ⟨List.mem_cons_self, by simp, fun hh => ?_⟩
          have h1 := bt_c1_cat (show bt_c1 w = true from hx)
          have h2 := hh.2
          simp only [hf] at h2
          omega
        rcases List.mem_cons.mp hq with rfl | hq
        · exact Or.inl rfl
        · have := bt_lp_ge f t _ q hq
          exact Or.inr ⟨bt_lp_tl f (bt_lp_tl f hq), by omega, by omega⟩
  | x :: t, n + 2, o, v, k, h => by
    obtain ⟨t', hk, h1, h2, h3⟩ := bt_ls_s f hf t (n + 1) (o + 1) v (fun t' => k (x :: t')) h
    refine ⟨x :: t', hk, by simp only [List.length_cons]; omega, by simp [h2], fun q hq => ?_⟩
    have key : q ∈ bt_lp f (o + 1) t' → q = (o + (n + 2), f v) ∨ (q ∈ bt_lp f o (x :: t) ∧ q.1 ≠ o + (n + 2) ∧ ¬ (q.1 + 1 = o + (n + 2) ∧ q.2.category = 2)) := by
      intro hq
      rcases h3 q hq with h4 | ⟨h4, h5, h6⟩
      · left; rw [h4]; congr 1; omega
      · right; exact ⟨bt_lp_tl f h4, by omega, fun hh => h6 ⟨by omega, hh.2⟩⟩
    cases x with
    | none => exact key hq
    | some w =>
      rcases List.mem_cons.mp (show q ∈ (o, f w) :: bt_lp f (o + 1) t' from hq) with rfl | hq
      · exact Or.inr ⟨List.mem_cons_self, by simp only [ne_eq]; omega, fun hh => by have := hh.1; simp only at this; omega⟩
      · exact key hq
theorem bt_ls2_s (f : Value → Value) (hf : ∀ v, (f v).category = v.category) : ∀ (L : bt_L) (i o : Nat) (v : Value) (k : bt_L → Prop), bt_ls2 L i v k → ∃ L', k L' ∧ i + 1 < L.length ∧ L'.length = L.length ∧ ∀ q ∈ bt_lp f o L', q = (o + i, f v) ∨ (q ∈ bt_lp f o L ∧ q.1 ≠ o + i ∧ q.1 ≠ o + i + 1 ∧ ¬ (q.1 + 1 = o + i ∧ q.2.category = 2))
  | [], _, _, _, _, h => False.elim h
  | x :: [], 0, o, v, k, h => False.elim h
  | x :: y :: t, 0, o, v, k, h => by
    refine ⟨some v :: none :: t, h, by simp, by simp, fun q hq => ?_⟩
    rcases List.mem_cons.mp (show q ∈ (o, f v) :: bt_lp f (o + 1 + 1) t from hq) with rfl | hq
    · exact Or.inl rfl
    · have := bt_lp_ge f t _ q hq
      exact Or.inr ⟨bt_lp_tl f (bt_lp_tl f hq), by omega, by omega, by omega⟩
  | x :: [], 1, o, v, k, h => by
    cases hx : bt_o1 x <;> simp [bt_ls2, hx] at h
  | x :: y :: [], 1, o, v, k, h => by
    cases hx : bt_o1 x <;> simp [bt_ls2, hx] at h
  | x :: y :: z :: t, 1, o, v, k, h => by
    cases hx : bt_o1 x with
    | false => simp [bt_ls2, hx] at h
    | true =>
      have h : k (x :: some v :: none :: t) := by simpa [bt_ls2, hx] using h
      refine ⟨_, h, by simp, by simp, fun q hq => ?_⟩
      cases x with
      | none =>
        rcases List.mem_cons.mp (show q ∈ (o + 1, f v) :: bt_lp f (o + 1 + 1 + 1) t from hq) with rfl | hq
        · exact Or.inl rfl
        · have := bt_lp_ge f t _ q hq
          exact Or.inr ⟨bt_lp_tl f (bt_lp_tl f (bt_lp_tl f hq)), by omega, by omega, by omega⟩
      | some w =>
        rcases List.mem_cons.mp (show q ∈ (o, f w) :: (o + 1, f v) :: bt_lp f (o + 1 + 1 + 1) t from hq) with rfl | hq
        · refine Or.inr ⟨List.mem_cons_self, by simp, by simp only [ne_eq]; omega, fun hh => ?_⟩
          have h1 := bt_c1_cat (show bt_c1 w = true from hx)
          have h2 := hh.2
          simp only [hf] at h2
          omega
        rcases List.mem_cons.mp hq with rfl | hq
        · exact Or.inl rfl
        · have := bt_lp_ge f t _ q hq
          exact Or.inr ⟨bt_lp_tl f (bt_lp_tl f (bt_lp_tl f hq)), by omega, by omega, by omega⟩
  | x :: t, n + 2, o, v, k, h => by
    obtain ⟨t', hk, h1, h2, h3⟩ := bt_ls2_s f hf t (n + 1) (o + 1) v (fun t' => k (x :: t')) h
    refine ⟨x :: t', hk, by simp only [List.length_cons]; omega, by simp [h2], fun q hq => ?_⟩
    have key : q ∈ bt_lp f (o + 1) t' → q = (o + (n + 2), f v) ∨ (q ∈ bt_lp f o (x :: t) ∧ q.1 ≠ o + (n + 2) ∧ q.1 ≠ o + (n + 2) + 1 ∧ ¬ (q.1 + 1 = o + (n + 2) ∧ q.2.category = 2)) := by
      intro hq
      rcases h3 q hq with h4 | ⟨h4, h5, h6, h7⟩
      · left; rw [h4]; congr 1; omega
      · right; exact ⟨bt_lp_tl f h4, by omega, by omega, fun hh => h7 ⟨by omega, hh.2⟩⟩
    cases x with
    | none => exact key hq
    | some w =>
      rcases List.mem_cons.mp (show q ∈ (o, f w) :: bt_lp f (o + 1) t' from hq) with rfl | hq
      · exact Or.inr ⟨List.mem_cons_self, by simp only [ne_eq]; omega, by simp only [ne_eq]; omega, fun hh => by have := hh.1; simp only at this; omega⟩
      · exact key hq
def bt_lr (ad fa : Nat → Nat) (ls : Array Slot) (nL : Nat) (L : bt_L) : Prop := L.length = nL ∧ lv_has ls nL (bt_lp (bt_tr ad fa) 0 L)
theorem bt_lr_g {ad fa : Nat → Nat} {ls : Array Slot} {nL i : Nat} {L : bt_L} {k : Value → Prop} (h : bt_lr ad fa ls nL L) (hk : bt_lg L i k) : ∃ v, k v ∧ ls[i]? = some (.val (bt_tr ad fa v)) := by
  obtain ⟨v, hv, hm⟩ := bt_lg_s (bt_tr ad fa) L i 0 k hk
  rw [Nat.zero_add] at hm
  exact ⟨v, hv, h.2.2.2 _ hm⟩
theorem bt_lr_s {ad fa : Nat → Nat} {ls : Array Slot} {nL i : Nat} {L : bt_L} {v : Value} {k : bt_L → Prop} (h : bt_lr ad fa ls nL L) (hc : v.category = 1) (hk : bt_ls L i v k) : ∃ L', k L' ∧ i < nL ∧ ∀ ls' : Array Slot, lv_has ls' nL ((i, bt_tr ad fa v) :: (bt_lp (bt_tr ad fa) 0 L).filter (fun q => !(q.1 == i) && !(q.1 + 1 == i && q.2.category == 2))) → bt_lr ad fa ls' nL L' := by
  obtain ⟨L', h1, h2, h3, h4⟩ := bt_ls_s (bt_tr ad fa) (bt_tr_cat ad fa) L i 0 v k hk
  refine ⟨L', h1, by rw [← h.1]; exact h2, fun ls' hl => ⟨by rw [h3]; exact h.1, hl.1, hl.2.1, fun q hq => hl.2.2 q ?_⟩⟩
  rcases h4 q hq with h5 | ⟨h5, h6, h7⟩
  · rw [h5, Nat.zero_add]; exact List.mem_cons_self
  · refine List.mem_cons_of_mem _ (List.mem_filter.mpr ⟨h5, ?_⟩)
    rw [Nat.zero_add] at h6 h7
    simp only [Bool.and_eq_true, Bool.not_eq_true', beq_eq_false_iff_ne, ne_eq, Bool.and_eq_false_iff]
    refine ⟨h6, ?_⟩
    by_cases h8 : q.1 + 1 = i
    · exact Or.inr fun h9 => h7 ⟨h8, h9⟩
    · exact Or.inl h8
theorem bt_lr_s2 {ad fa : Nat → Nat} {ls : Array Slot} {nL i : Nat} {L : bt_L} {v : Value} {k : bt_L → Prop} (h : bt_lr ad fa ls nL L) (hk : bt_ls2 L i v k) : ∃ L', k L' ∧ i + 1 < nL ∧ ∀ ls' : Array Slot, lv_has ls' nL ((i, bt_tr ad fa v) :: (bt_lp (bt_tr ad fa) 0 L).filter (fun q => !(q.1 == i) && (!(q.1 == i + 1) && !(q.1 + 1 == i && q.2.category == 2)))) → bt_lr ad fa ls' nL L' := by
  obtain ⟨L', h1, h2, h3, h4⟩ := bt_ls2_s (bt_tr ad fa) (bt_tr_cat ad fa) L i 0 v k hk
  refine ⟨L', h1, by rw [← h.1]; exact h2, fun ls' hl => ⟨by rw [h3]; exact h.1, hl.1, hl.2.1, fun q hq => hl.2.2 q ?_⟩⟩
  rcases h4 q hq with h5 | ⟨h5, h6, h7, h10⟩
  · rw [h5, Nat.zero_add]; exact List.mem_cons_self
  · refine List.mem_cons_of_mem _ (List.mem_filter.mpr ⟨h5, ?_⟩)
    rw [Nat.zero_add] at h6 h7 h10
    simp only [Bool.and_eq_true, Bool.not_eq_true', beq_eq_false_iff_ne, ne_eq, Bool.and_eq_false_iff]
    refine ⟨h6, h7, ?_⟩
    by_cases h8 : q.1 + 1 = i
    · exact Or.inr fun h9 => h10 ⟨h8, h9⟩
    · exact Or.inl h8
end
section
/-! SOUNDNESS: the heap -/
def bt_tys (ca : Nat → ClassId) : List (ClassId × FieldType) := [(ca 0, .int), (ca 1, .long), (ca 2, .byte), (ca 3, .boolean), (ca 4, .object RX4), (ca 5, .object RX2), (ca 6, .array .int)]
def bt_fv (ad : Nat → Nat) (M : bt_M) (N : bt_N) (c ci k : Nat) : Value := match bt_ft ci k with
  | 0 => .int (M c k)
  | 1 => .long (N c k)
  | _ => .ref (ad (bt_rf c k))
def bt_ar (ad : Nat → Nat) (M : bt_M) (N : bt_N) (c t : Nat) : (Nat → Int32) ⊕ (Nat → Int64) ⊕ (Nat → UInt32) ⊕ (Nat → UInt64) ⊕ (Nat → Option Nat) := match t with
  | 0 => .inl (M c)
  | 1 => .inr (.inl (N c))
  | 2 => .inl (M c)
  | 3 => .inl (M c)
  | _ => .inr (.inr (.inr (.inr (fun k => some (ad (bt_rf c k))))))
def bt_ct (ca : Nat → ClassId) (ad : Nat → Nat) (M : bt_M) (N : bt_N) (c : Nat) : va_E := match bt_sh c with
  | (0, ci, _) => .inr (ci, (List.range (bt_nf ci)).map (bt_fv ad M N c ci))
  | (_, t, n) => .inl (ca t, n, bt_ar ad M N c t)
def bt_ws (ca : Nat → ClassId) (ad : Nat → Nat) (M : bt_M) (N : bt_N) : va_W := (List.range 79).map (fun c => (ad c, bt_ct ca ad M N c))
theorem bt_ws_get {ca : Nat → ClassId} {ad : Nat → Nat} {M : bt_M} {N : bt_N} {c : Nat} (h : c < 79) : (bt_ws ca ad M N)[c]? = some (ad c, bt_ct ca ad M N c) := by
  simp [bt_ws, h]
theorem bt_ws_set {ca : Nat → ClassId} {ad : Nat → Nat} {M M' : bt_M} {N N' : bt_N} {c : Nat} {e : va_E} (he : bt_ct ca ad M' N' c = e) (h : ∀ c', c' ≠ c → bt_ct ca ad M N c' = bt_ct ca ad M' N' c') : (bt_ws ca ad M N).set c (ad c, e) = bt_ws ca ad M' N' := by
  subst he
  apply List.ext_getElem?
  intro k
  by_cases hk : k = c
  · subst hk
    by_cases hl : k < 79
    · simp [bt_ws, hl]
    · simp [bt_ws, hl]
  · simp only [List.getElem?_set_ne (Ne.symm hk), bt_ws, List.getElem?_map]
    by_cases hl : k < 79
    · simp [hl, h k hk]
    · simp [hl]
theorem bt_at_out {α : Type} (d : α) : ∀ (l : List α) (k : Nat), l.length ≤ k → bt_at l k d = d
  | [], _, _ => rfl
  | _ :: l, 0, hk => by simp at hk
  | _ :: l, k + 1, hk => bt_at_out d l k (by simpa using hk)
theorem bt_sh_lt {c : Nat} {a b n : Nat} (h : bt_sh c = (a, b, n)) (ha : a < 9) : c < 79 := by
  have key : ∀ (l : List (Nat × Nat × Nat)) (k : Nat), l.length ≤ k → bt_at l k (9, 0, 0) = (9, 0, 0) := bt_at_out (9, 0, 0)
  rcases Nat.lt_or_ge c 79 with hc | hc
  · exact hc
  · have h2 : bt_sh c = (9, 0, 0) := key bt_shl c (by simpa [bt_shl] using hc)
    rw [h2] at h
    cases h
    omega
theorem bt_at_all {α : Type} (P : α → Prop) (d : α) (hd : P d) : ∀ (l : List α), (∀ x ∈ l, P x) → ∀ k, P (bt_at l k d)
  | [], _, _ => hd
  | x :: l, h, 0 => h x List.mem_cons_self
  | x :: l, h, k + 1 => bt_at_all P d hd l (fun y hy => h y (List.mem_cons_of_mem _ hy)) k
theorem bt_sh_n {c : Nat} {a b n : Nat} (h : bt_sh c = (a, b, n)) : n < 2 ^ 31 := by
  have h1 := bt_at_all (fun q : Nat × Nat × Nat => q.2.2 < 1000) (9, 0, 0) (by decide) bt_shl (by decide) c
  have h2 : (bt_sh c).2.2 < 1000 := h1
  rw [h] at h2
  simp only at h2
  omega
theorem bt_ct_o {ca : Nat → ClassId} {ad : Nat → Nat} {M : bt_M} {N : bt_N} {c ci n : Nat} (h : bt_sh c = (0, ci, n)) : bt_ct ca ad M N c = .inr (ci, (List.range (bt_nf ci)).map (bt_fv ad M N c ci)) := by
  simp [bt_ct, h]
theorem bt_ct_a {ca : Nat → ClassId} {ad : Nat → Nat} {M : bt_M} {N : bt_N} {c t n : Nat} (h : bt_sh c = (1, t, n)) : bt_ct ca ad M N c = .inl (ca t, n, bt_ar ad M N c t) := by
  simp [bt_ct, h]
theorem bt_fv_M {ad : Nat → Nat} {M M' : bt_M} {N N' : bt_N} {c ci : Nat} (h : ∀ k, bt_ft ci k = 0 → M c k = M' c k) (h2 : ∀ k, bt_ft ci k = 1 → N c k = N' c k) : bt_fv ad M N c ci = bt_fv ad M' N' c ci := by
  funext k
  unfold bt_fv
  split
  · rw [h k (by assumption)]
  · rw [h2 k (by assumption)]
  · rfl
theorem bt_ct_M {ca : Nat → ClassId} {ad : Nat → Nat} {M M' : bt_M} {N N' : bt_N} {c : Nat} (h : M c = M' c) (h2 : N c = N' c) : bt_ct ca ad M N c = bt_ct ca ad M' N' c := by
  have e : ∀ ci, bt_fv ad M N c ci = bt_fv ad M' N' c ci := fun ci => bt_fv_M (fun k _ => by rw [h]) (fun k _ => by rw [h2])
  have e2 : ∀ t, bt_ar ad M N c t = bt_ar ad M' N' c t := by
    intro t
    unfold bt_ar
    rw [h, h2]
  unfold bt_ct
  split
  · rw [e]
  · rw [e2]
/-- an int field is written -/
theorem bt_ws_pI {ca : Nat → ClassId} {ad : Nat → Nat} {M : bt_M} {N : bt_N} {c ci n f : Nat} {x : Int32} (h : bt_sh c = (0, ci, n)) (hf : bt_ft ci f = 0) : (bt_ws ca ad M N).set c (ad c, .inr (ci, ((List.range (bt_nf ci)).map (bt_fv ad M N c ci)).set f (.int x))) = bt_ws ca ad (va_up M c (upd (M c) f x)) N := by
  apply bt_ws_set
  · rw [bt_ct_o h]
    congr 2
    apply List.ext_getElem?
    intro k
    by_cases hk : k = f
    · subst hk
      by_cases hl : k < bt_nf ci
      · simp [hl, bt_fv, hf, va_up, upd]
      · simp [hl]
    · rw [List.getElem?_set_ne (Ne.symm hk)]
      by_cases hl : k < bt_nf ci
      · simp [hl, bt_fv, va_up, upd, hk]
      · simp [hl]
  · intro c' hc
    exact bt_ct_M (by simp [va_up, hc]) rfl
theorem bt_ws_pL {ca : Nat → ClassId} {ad : Nat → Nat} {M : bt_M} {N : bt_N} {c ci n f : Nat} {x : Int64} (h : bt_sh c = (0, ci, n)) (hf : bt_ft ci f = 1) : (bt_ws ca ad M N).set c (ad c, .inr (ci, ((List.range (bt_nf ci)).map (bt_fv ad M N c ci)).set f (.long x))) = bt_ws ca ad M (va_up N c (vp_updL (N c) f x)) := by
  apply bt_ws_set
  · rw [bt_ct_o h]
    congr 2
    apply List.ext_getElem?
    intro k
    by_cases hk : k = f
    · subst hk
      by_cases hl : k < bt_nf ci
      · simp [hl, bt_fv, hf, va_up, vp_updL]
      · simp [hl]
    · rw [List.getElem?_set_ne (Ne.symm hk)]
      by_cases hl : k < bt_nf ci
      · simp [hl, bt_fv, va_up, vp_updL, hk]
      · simp [hl]
  · intro c' hc
    exact bt_ct_M rfl (by simp [va_up, hc])
/-- an array's ints are written -/
theorem bt_ws_aI {ca : Nat → ClassId} {ad : Nat → Nat} {M : bt_M} {N : bt_N} {c t n : Nat} {f : Nat → Int32} (h : bt_sh c = (1, t, n)) (ht : t = 0 ∨ t = 2 ∨ t = 3) : (bt_ws ca ad M N).set c (ad c, .inl (ca t, n, .inl f)) = bt_ws ca ad (va_up M c f) N := by
  apply bt_ws_set
  · rw [bt_ct_a h]
    rcases ht with rfl | rfl | rfl <;> simp [bt_ar, va_up]
  · intro c' hc
    exact bt_ct_M (by simp [va_up, hc]) rfl
theorem bt_ws_aL {ca : Nat → ClassId} {ad : Nat → Nat} {M : bt_M} {N : bt_N} {c n : Nat} {f : Nat → Int64} (h : bt_sh c = (1, 1, n)) : (bt_ws ca ad M N).set c (ad c, .inl (ca 1, n, .inr (.inl f))) = bt_ws ca ad M (va_up N c f) := by
  apply bt_ws_set
  · rw [bt_ct_a h]
    simp [bt_ar, va_up]
  · intro c' hc
    exact bt_ct_M rfl (by simp [va_up, hc])
theorem bt_wsD {ca : Nat → ClassId} {ad : Nat → Nat} {base : Nat} (hi : ∀ i j, i < 79 → j < 79 → ad i = ad j → i = j) (hb : ∀ i, i < 79 → base ≤ ad i) (M : bt_M) (N : bt_N) : va_D (fun q => base ≤ q) (bt_ws ca ad M N) := by
  have key : ∀ (k : Nat) (q : Nat × va_E), (bt_ws ca ad M N)[k]? = some q → k < 79 ∧ q.1 = ad k := by
    intro k q h
    by_cases hk : k < 79
    · rw [bt_ws_get hk] at h
      cases h
      exact ⟨hk, rfl⟩
    · simp [bt_ws, hk] at h
  refine ⟨fun i j p q h1 h2 h3 => ?_, fun k q h => ?_⟩
  · obtain ⟨a1, a2⟩ := key i p h1
    obtain ⟨b1, b2⟩ := key j q h2
    exact hi i j a1 b1 (by rw [← a2, ← b2, h3])
  · obtain ⟨a1, a2⟩ := key k q h
    show base ≤ q.1
    rw [a2]
    exact hb k a1
end
section
/-! SOUNDNESS: one instruction -/
abbrev bt_G : Type := Program × Launch × Env × Room × State × MethodId × Array Value × List Frame × Method × Code × Nat × Nat × (State → Prop)
abbrev bt_Y : Type := (Nat → ClassId) × (Nat → Nat → Nat) × (Nat → ClassId) × (Nat → Nat) × (Nat → Nat) × Nat
def bt_V (g : bt_G) (y : bt_Y) (nL pc : Nat) (L : bt_L) (st : List Value) (M : bt_M) (N : bt_N) : Prop := match g, y with
  | (p, l, e, R, s, m, args, below, meth, c, cells, slots, Q), (dC, dI, ca, ad, fa, base) =>
    ∀ (H : Heap) (locs : List Loc) (ls : Array Slot), va_P (dC, dI) bt_cl (bt_ws ca ad M N) H → va_S (fun q => base ≤ q) s.heap H locs → bt_lr ad fa ls nL L → W p l e R s m args below meth c H locs cells slots Q (F0 m pc ls (st.map (bt_tr ad fa)))
def bt_nst : List Cond := [.methodLinkNest RX3 94 yX5_within RX5, .methodLinkNest RX3 147 yX5_bit RX5, .methodLinkNest RX4 77 yX5_bit RX5, .methodLinkNest RX1 61 yX5_bit RX5, .methodLinkNest RX0 77 yX5_bit RX5, .methodLinkNest RX2 22 yX5_within RX5]
def bt_sb : List (List Int32) := [[114, 111, 97, 100], [99, 97, 114], [110, 101, 118, 101, 114], [111, 110, 101], [98, 111, 108, 100], [102, 111, 108, 108, 111, 119], [116, 105, 109, 105, 100], [115, 108, 111, 119], [111, 100, 100, 115], [104, 105, 108, 108], [108, 97, 121, 98, 121], [108, 97, 110, 101]]
def bt_sl : List Nat := [4, 3, 5, 3, 4, 6, 5, 4, 4, 4, 5, 4]
/-- what is known of a state: the classes, the nests, the texts -/
def bt_Kn (y : bt_Y) (U : State) (H : Heap) : Prop := match y with
  | (dC, dI, ca, ad, fa, base) => va_K (dC, dI) bt_cl (bt_tys ca) U ∧ (∀ w ∈ bt_nst, va_Nw w U) ∧ (∀ (j : Nat) (q : String × Nat × String), bt_strs[j]? = some q → vk_R q.1 q.2.1 q.2.2 (fa (j + 1)) U) ∧ (∃ adV, vk_S 12 bt_sl bt_sb (fun i => fa (i + 1)) adV (fun q => base ≤ q) U H) ∧ va_Z "java/lang/String" "COMPACT_STRINGS" "Z" (.int 1) (fun q => base ≤ q) U H
/-- what stands around a method's body -/
def bt_Cx (g : bt_G) (y : bt_Y) (own : String) (cc : ByteArray) (nL SL : Nat) (xs : Nat → Int32) : Prop := match g, y with
  | (p, l, e, R, s, m, args, below, meth, c, cells, slots, Q), (dC, dI, ca, ad, fa, base) =>
    p.tables.exec = Jvm.exec ∧ c.code = cc ∧ c.maxLocals = nL ∧ s.vm.findClass own = some m.cls ∧ (∀ w ∈ bt_big, w.before args s = true) ∧ bt_Kn (dC, dI, ca, ad, fa, base) s s.heap ∧ (∀ i j, i < 79 → j < 79 → ad i = ad j → i = j) ∧ (∀ i, i < 79 → base ≤ ad i) ∧ base ≤ s.heap.size ∧ (∀ S, SL = S + 1 → va_X (fa 0) S xs s s.heap ∧ fa 0 < base ∧ S < 2 ^ 31) ∧ cells ≤ R.cells ∧ slots ≤ R.slots
/-- the fields that a class links -/
def bt_okF (own : String) (FL : bt_F) : Prop := ∀ q ∈ FL, ∀ r, bt_cl[q.2.1]? = some r → Cond.fieldLink own q.1 r.1 (r.2.1 q.2.2).2.1 (r.2.1 q.2.2).2.2.1 ∈ bt_big
/-- a call -/
def bt_okC (g : bt_G) (y : bt_Y) (cc : ByteArray) (nL : Nat) (CT : bt_C) : Prop := ∀ q ∈ CT, ∀ (pc : Nat) (L : bt_L) (st : List Value) (M : bt_M) (N : bt_N) (k : List Value → bt_M → bt_N → Prop),
  ((q.2.1 = 0 ∧ decode cc pc = .ok (.invokestatic q.1, 3)) ∨ (q.2.1 = 1 ∧ decode cc pc = .ok (.invokevirtual q.1, 3))) → bt_do q.2.2.1 q.2.2.2 st M N k → (∀ st' M' N', k st' M' N' → bt_V g y nL (pc + 3) L st' M' N') → bt_V g y nL pc L st M N
/-- an answer -/
def bt_okR (g : bt_G) (y : bt_Y) (cc : ByteArray) (nL rt : Nat) (Rt : bt_R) : Prop :=
  (rt = 0 → ∀ pc L M N, decode cc pc = .ok (.return_, 1) → Rt none M N → bt_V g y nL pc L [] M N) ∧
  (rt = 1 → ∀ pc L M N x, decode cc pc = .ok (.ireturn, 1) → Rt (some (.int x)) M N → bt_V g y nL pc L [.int x] M N) ∧
  (rt = 2 → ∀ pc L M N x, decode cc pc = .ok (.ireturn, 1) → (x = 0 ∨ x = 1) → Rt (some (.int x)) M N → bt_V g y nL pc L [.int x] M N) ∧
  (rt = 3 → ∀ pc L M N x, decode cc pc = .ok (.lreturn, 1) → Rt (some (.long x)) M N → bt_V g y nL pc L [.long x] M N)
theorem bt_cl7 {P : Nat → vw_C → Prop} (h0 : P 0 (RX0, TX0, 11)) (h1 : P 1 (RX1, TX1, 4)) (h2 : P 2 (RX2, TX2, 3)) (h3 : P 3 (RX3, TX3, 14)) (h4 : P 4 (RX4, TX4, 18)) (h5 : P 5 (RX5, TX5, 12)) (h6 : P 6 (RX6, TX6, 27)) : ∀ (ci : Nat) (r : vw_C), bt_cl[ci]? = some r → P ci r := by
  intro ci r h
  have h7 : ci < 7 := by
    rcases Nat.lt_or_ge ci 7 with h1 | h1
    · exact h1
    · rw [List.getElem?_eq_none (by simpa [bt_cl] using h1)] at h
      cases h
  rcases (show ci = 0 ∨ ci = 1 ∨ ci = 2 ∨ ci = 3 ∨ ci = 4 ∨ ci = 5 ∨ ci = 6 by omega) with rfl | rfl | rfl | rfl | rfl | rfl | rfl <;> cases h <;> assumption
theorem bt_clN : ∀ (ci : Nat) (r : vw_C), bt_cl[ci]? = some r → r.2.2 = bt_nf ci := bt_cl7 (by decide) (by decide) (by decide) (by decide) (by decide) (by decide) (by decide)
theorem bt_clW : ∀ (ci : Nat) (r : vw_C), bt_cl[ci]? = some r → ∀ w ∈ u_ws r.1 r.2.1 r.2.2, w ∈ bt_big := bt_cl7 (by decide +kernel) (by decide +kernel) (by decide +kernel) (by decide +kernel) (by decide +kernel) (by decide +kernel) (by decide +kernel)
theorem bt_clD : ∀ (ci : Nat) (r : vw_C), bt_cl[ci]? = some r → ∀ f, f < r.2.2 → (r.2.1 f).1 = r.1 := bt_cl7 (by decide +kernel) (by decide +kernel) (by decide +kernel) (by decide +kernel) (by decide +kernel) (by decide +kernel) (by decide +kernel)
theorem bt_clX : ∀ (ci : Nat) (r : vw_C), bt_cl[ci]? = some r → ∀ a, a < r.2.2 → ∀ b, b < r.2.2 → a ≠ b → (r.2.1 a).2.1 ≠ (r.2.1 b).2.1 := bt_cl7 nmX0 nmX1 nmX2 nmX3 nmX4 nmX5 nmX6
theorem bt_clY : ∀ (ci : Nat) (r : vw_C), bt_cl[ci]? = some r → ∃ ty : Nat → FieldType, ∀ k, k < r.2.2 → parseFieldDescriptor (r.2.1 k).2.2.1 = some (ty k) := bt_cl7 ⟨_, tyX0_ok⟩ ⟨_, tyX1_ok⟩ ⟨_, tyX2_ok⟩ ⟨_, tyX3_ok⟩ ⟨_, tyX4_ok⟩ ⟨_, tyX5_ok⟩ ⟨_, tyX6_ok⟩
theorem bt_clT : ∀ (ci : Nat) (r : vw_C), bt_cl[ci]? = some r → ∀ f, f < r.2.2 → bt_ft ci f < 2 → (r.2.1 f).2.2.2 = false ∧ parseFieldDescriptor (r.2.1 f).2.2.1 = some (if bt_ft ci f = 0 then .int else .long) := bt_cl7 (by decide +kernel) (by decide +kernel) (by decide +kernel) (by decide +kernel) (by decide +kernel) (by decide +kernel) (by decide +kernel)
/-- the class of an object, a field of it -/
theorem bt_sh_c {c ci n : Nat} (h : bt_sh c = (0, ci, n)) : ∃ r, bt_cl[ci]? = some r := by
  have h1 := bt_at_all (fun q : Nat × Nat × Nat => q.1 = 0 → q.2.1 < 7) (9, 0, 0) (by decide) bt_shl (by decide) c
  have h2 : (bt_sh c).1 = 0 → (bt_sh c).2.1 < 7 := h1
  rw [h] at h2
  exact ⟨_, List.getElem?_eq_getElem (by simpa [bt_cl] using h2 rfl)⟩
theorem bt_ft_lt {ci f : Nat} {r : vw_C} (hr : bt_cl[ci]? = some r) (h : bt_ft ci f ≤ 2) : f < r.2.2 := by
  rcases Nat.lt_or_ge f r.2.2 with h1 | h1
  · exact h1
  · have key : ∀ (ci : Nat) (r : vw_C), bt_cl[ci]? = some r → (bt_at bt_fts ci []).length = r.2.2 := bt_cl7 (by decide) (by decide) (by decide) (by decide) (by decide) (by decide) (by decide)
    have h2 : bt_ft ci f = 9 := bt_at_out 9 _ f (by rw [key ci r hr]; exact h1)
    omega
end
section
/-! what the pieces of an instruction say -/
theorem bt_k1i_s {st : List Value} {k : Int32 → List Value → Prop} (h : bt_k1i st k) : ∃ a r, st = .int a :: r ∧ k a r := by
  unfold bt_k1i at h
  split at h
  · exact ⟨_, _, rfl, h⟩
  · exact False.elim h
theorem bt_k2i_s {st : List Value} {k : Int32 → Int32 → List Value → Prop} (h : bt_k2i st k) : ∃ a b r, st = .int b :: .int a :: r ∧ k a b r := by
  unfold bt_k2i at h
  split at h
  · exact ⟨_, _, _, rfl, h⟩
  · exact False.elim h
theorem bt_k1l_s {st : List Value} {k : Int64 → List Value → Prop} (h : bt_k1l st k) : ∃ a r, st = .long a :: r ∧ k a r := by
  unfold bt_k1l at h
  split at h
  · exact ⟨_, _, rfl, h⟩
  · exact False.elim h
theorem bt_k2l_s {st : List Value} {k : Int64 → Int64 → List Value → Prop} (h : bt_k2l st k) : ∃ a b r, st = .long b :: .long a :: r ∧ k a b r := by
  unfold bt_k2l at h
  split at h
  · exact ⟨_, _, _, rfl, h⟩
  · exact False.elim h
theorem bt_kr_s {st : List Value} {k : Nat → List Value → Prop} (h : bt_kr st k) : ∃ c r, st = .ref c :: r ∧ k c r := by
  unfold bt_kr at h
  split at h
  · exact ⟨_, _, rfl, h⟩
  · exact False.elim h
theorem bt_kir_s {st : List Value} {k : Int32 → Nat → List Value → Prop} {kx : Int32 → List Value → Prop} (h : bt_kir st k kx) : (∃ i c r, st = .int i :: .ref c :: r ∧ k i c r) ∨ ∃ i r, st = .int i :: .retAddr 0 :: r ∧ kx i r := by
  unfold bt_kir at h
  split at h
  · exact Or.inl ⟨_, _, _, rfl, h⟩
  · exact Or.inr ⟨_, _, rfl, h⟩
  · exact False.elim h
theorem bt_kxir_s {st : List Value} {k : Int32 → Int32 → Nat → List Value → Prop} (h : bt_kxir st k) : ∃ x i c r, st = .int x :: .int i :: .ref c :: r ∧ k x i c r := by
  unfold bt_kxir at h
  split at h
  · exact ⟨_, _, _, _, rfl, h⟩
  · exact False.elim h
theorem bt_klir_s {st : List Value} {k : Int64 → Int32 → Nat → List Value → Prop} (h : bt_klir st k) : ∃ x i c r, st = .long x :: .int i :: .ref c :: r ∧ k x i c r := by
  unfold bt_klir at h
  split at h
  · exact ⟨_, _, _, _, rfl, h⟩
  · exact False.elim h
theorem bt_k1_s {st : List Value} {k : Value → List Value → Prop} (h : bt_k1 st k) : ∃ v r, st = v :: r ∧ v.category = 1 ∧ k v r := by
  unfold bt_k1 at h
  split at h
  · split at h
    · exact ⟨_, _, rfl, bt_c1_cat (by assumption), h⟩
    · exact False.elim h
  · exact False.elim h
theorem bt_k2_s {st : List Value} {k : Value → Value → List Value → Prop} (h : bt_k2 st k) : ∃ v w r, st = v :: w :: r ∧ v.category = 1 ∧ w.category = 1 ∧ k v w r := by
  unfold bt_k2 at h
  split at h
  · split at h
    · exact ⟨_, _, _, rfl, bt_c1_cat (by assumption), bt_c1_cat (by assumption), h⟩
    · exact False.elim h
  · exact False.elim h
theorem bt_li_s {ad fa : Nat → Nat} {ls : Array Slot} {nL i : Nat} {L : bt_L} {k : Int32 → Prop} (hl : bt_lr ad fa ls nL L) (h : bt_li L i k) : ∃ x, k x ∧ ls[i]? = some (.val (.int x)) := by
  obtain ⟨v, hv, hg⟩ := bt_lr_g hl h
  split at hv
  · exact ⟨_, hv, hg⟩
  · exact False.elim hv
theorem bt_ll_s {ad fa : Nat → Nat} {ls : Array Slot} {nL i : Nat} {L : bt_L} {k : Int64 → Prop} (hl : bt_lr ad fa ls nL L) (h : bt_ll L i k) : ∃ x, k x ∧ ls[i]? = some (.val (.long x)) := by
  obtain ⟨v, hv, hg⟩ := bt_lr_g hl h
  split at hv
  · exact ⟨_, hv, hg⟩
  · exact False.elim hv
theorem bt_la_s {ad fa : Nat → Nat} {ls : Array Slot} {nL i : Nat} {L : bt_L} {k : Value → Prop} (hl : bt_lr ad fa ls nL L) (h : bt_la L i k) : ∃ v a, k v ∧ bt_tr ad fa v = .ref a ∧ ls[i]? = some (.val (.ref a)) := by
  obtain ⟨v, hv, hg⟩ := bt_lr_g hl h
  split at hv
  · exact ⟨_, _, hv, rfl, hg⟩
  · exact ⟨_, _, hv, rfl, hg⟩
  · exact False.elim hv
theorem bt_tg_s {tg : List (Int32 × Nat)} {k : Nat → Prop} {pc : Nat} {o : Int} (h : bt_tg tg k) (ho : bt_tgok pc o tg = true) : ∃ t : Nat, (pc : Int) + o = (t : Int) ∧ k t := by
  unfold bt_tg at h
  split at h
  · exact ⟨_, of_decide_eq_true ho, h⟩
  · exact False.elim h
theorem bt_fl_s : ∀ {FL : bt_F} {i : Nat} {k : Nat → Nat → Prop}, bt_fl FL i k → ∃ ci f, (i, ci, f) ∈ FL ∧ k ci f
  | [], _, _, h => False.elim h
  | (a, ci, f) :: t, i, k, h => by
    unfold bt_fl at h
    split at h
    · next hb =>
      have e : a = i := Nat.eq_of_beq_eq_true hb
      subst e
      exact ⟨ci, f, List.mem_cons_self, h⟩
    · obtain ⟨ci', f', hm, hk⟩ := bt_fl_s h
      exact ⟨ci', f', List.mem_cons_of_mem _ hm, hk⟩
theorem bt_ob_s {c ci : Nat} {k : Prop} (h : bt_ob c ci k) : ∃ n, bt_sh c = (0, ci, n) ∧ k := by
  unfold bt_ob at h
  split at h
  · next ci' n hsh =>
    split at h
    · next hb =>
      have e : ci' = ci := Nat.eq_of_beq_eq_true hb
      subst e
      exact ⟨n, hsh, h⟩
    · exact False.elim h
  · exact False.elim h
theorem bt_sw_s {x : Int32} {d : Prop} {k : Nat → Prop} : ∀ {ts : List (Int32 × Nat)}, bt_sw x ts k d → (∃ (j : Nat) (q : Int32 × Nat), ts[j]? = some q ∧ x = q.1 ∧ k q.2) ∨ ((∀ (j : Nat) (q : Int32 × Nat), ts[j]? = some q → x ≠ q.1) ∧ d)
  | [], h => Or.inr ⟨fun j q hq => by simp at hq, h⟩
  | (a, t) :: r, h => by
    by_cases hx : x = a
    · exact Or.inl ⟨0, (a, t), rfl, hx, h.1 hx⟩
    · rcases bt_sw_s (h.2 hx) with ⟨j, q, h1, h2, h3⟩ | ⟨h1, h2⟩
      · exact Or.inl ⟨j + 1, q, h1, h2, h3⟩
      · refine Or.inr ⟨fun j q hq => ?_, h2⟩
        cases j with
        | zero => cases hq; exact hx
        | succ j => exact h1 j q hq
theorem bt_swok_s {pc : Nat} : ∀ {ts : List (Int32 × Nat)} {os : List Int} {lo : Int}, bt_swok pc lo ts os = true → ts.length = os.length ∧ ∀ (j : Nat) (q : Int32 × Nat), ts[j]? = some q → q.1.toInt = lo + j ∧ ∃ o, os[j]? = some o ∧ (pc : Int) + o = (q.2 : Int)
  | [], [], _, _ => ⟨rfl, fun j q hq => by simp at hq⟩
  | [], _ :: _, _, h => by simp [bt_swok] at h
  | _ :: _, [], _, h => by simp [bt_swok] at h
  | (a, t) :: r, o :: os, lo, h => by
    simp only [bt_swok, Bool.and_eq_true, decide_eq_true_eq] at h
    obtain ⟨h1, h2⟩ := bt_swok_s h.2
    refine ⟨by simp [h1], fun j q hq => ?_⟩
    cases j with
    | zero =>
      cases hq
      exact ⟨by rw [h.1.1]; simp, o, rfl, h.1.2⟩
    | succ j =>
      obtain ⟨h3, o', h4, h5⟩ := h2 j q hq
      exact ⟨by rw [h3]; omega, o', h4, h5⟩
theorem bt_call_s : ∀ {CT : bt_C} {i kj : Nat} {st : List Value} {M : bt_M} {N : bt_N} {k : List Value → bt_M → bt_N → Prop}, bt_call CT i kj st M N k → ∃ na sp, (i, kj, na, sp) ∈ CT ∧ bt_do na sp st M N k
  | [], _, _, _, _, _, _, h => False.elim h
  | (a, kd, na, sp) :: t, i, kj, st, M, N, k, h => by
    unfold bt_call at h
    split at h
    · next hb =>
      have e : a = i := Nat.eq_of_beq_eq_true hb
      subst e
      split at h
      · next hb2 =>
        have e : kd = kj := Nat.eq_of_beq_eq_true hb2
        subst e
        exact ⟨na, sp, List.mem_cons_self, h⟩
      · exact False.elim h
    · obtain ⟨na', sp', hm, hk⟩ := bt_call_s h
      exact ⟨na', sp', List.mem_cons_of_mem _ hm, hk⟩
theorem bt_pop_s : ∀ {n : Nat} {st acc : List Value} {k : List Value → List Value → Prop}, bt_pop n st acc k → ∃ as r, as.length = n ∧ st = as.reverse ++ r ∧ k (as ++ acc) r
  | 0, st, acc, k, h => ⟨[], st, rfl, rfl, h⟩
  | n + 1, [], acc, k, h => False.elim h
  | n + 1, v :: st, acc, k, h => by
    obtain ⟨as, r, h1, h2, h3⟩ := bt_pop_s (show bt_pop n st (v :: acc) k from h)
    exact ⟨as ++ [v], r, by simp [h1], by simp [h2], by simpa using h3⟩
theorem bt_sum_s (ad fa : Nat → Nat) : ∀ (r : List Value), ((r.map (bt_tr ad fa)).map fun v => v.category).sum = bt_sum r
  | [] => rfl
  | v :: r => by
    simp only [List.map_cons, List.sum_cons, bt_tr_cat, bt_sum, bt_sum_s ad fa r]
    cases hv : bt_c1 v with
    | true => rw [bt_c1_cat hv]; simp only; omega
    | false => rw [bt_c1_cat2 hv]; simp only; omega
end
section
theorem bt_atk_s : ∀ (l : List Nat) (n : Nat) (k : Nat → Prop), bt_atk l n k ↔ k (bt_at l n 0)
  | [], _, _ => Iff.rfl
  | _ :: _, 0, _ => Iff.rfl
  | _ :: t, n + 1, k => bt_atk_s t n k
theorem bt_rf_o {c ci n f : Nat} (h : bt_sh c = (0, ci, n)) : bt_rf c f = bt_at (bt_at bt_rfl c []) f 0 := by
  unfold bt_rf
  split
  · simp [bt_sh, bt_shl, bt_at] at h
  · simp [bt_sh, bt_shl, bt_at] at h
  · simp [bt_sh, bt_shl, bt_at] at h
  · rfl
theorem bt_nIix {i : Int32} {j n : Nat} (hi : i = nI j) (hj : j < n) (hn : n < 2 ^ 31) : vp_in i n ∧ i.toNatClampNeg = j := by
  subst hi
  exact ⟨vp_in_nI hj hn, nI_clamp (by omega)⟩
set_option maxHeartbeats 4000000 in
theorem bt_step {g : bt_G} {y : bt_Y} {own : String} {cc : ByteArray} {nL SL : Nat} {xs : Nat → Int32} {FL : bt_F} {CT : bt_C} {rt : Nat} {Rt : bt_R} (cx : bt_Cx g y own cc nL SL xs) (hF : bt_okF own FL) (hC : bt_okC g y cc nL CT) (hR : bt_okR g y cc nL rt Rt)
    {en : bt_E} (he : bt_okE own cc en = true) {L : bt_L} {st : List Value} {M : bt_M} {N : bt_N} {ks : bt_L → List Value → bt_M → bt_N → Prop} {kj : Nat → bt_L → List Value → bt_M → bt_N → Prop} (h : bt_wp1 FL CT rt SL xs Rt en L st M N ks kj)
    (hs : ∀ L' st' M' N', ks L' st' M' N' → bt_V g y nL (en.1 + en.2.2.1) L' st' M' N') (hj : ∀ t L' st' M' N', kj t L' st' M' N' → bt_V g y nL t L' st' M' N') : bt_V g y nL en.1 L st M N := by
  obtain ⟨pc, I, len, tg, ci, cl⟩ := en
  have hd : decode cc pc = .ok (I, len) := of_decide_eq_true (Bool.and_eq_true_iff.mp he).1
  have ho : bt_ok2 own (pc, I, len, tg, ci, cl) = true := (Bool.and_eq_true_iff.mp he).2
  clear he
  dsimp only at hs hj ⊢
  obtain ⟨p, l, e, R, s, m, args, below, meth, c, cells, slots, Q⟩ := g
  obtain ⟨dC, dI, ca, ad, fa, base⟩ := y
  obtain ⟨hx, hb, hml, hown, hts, hKn, hai, hab, hbs, hsc, hcl, hsl⟩ := id cx
  obtain ⟨hK, hnst, hstr, hvk, hvz⟩ := id hKn
  have hDD : ∀ (M : bt_M) (N : bt_N), va_D (fun q => base ≤ q) (bt_ws ca ad M N) := bt_wsD hai hab
  cases I with
  | iconst n =>
    obtain ⟨h1, h2⟩ : Int32.ofInt n = ci ∧ len = 1 := by simpa [bt_ok2] using ho
    subst h2
    intro H locs ls hP hS hl
    exact lv_iconst hx hb hd h1 (hs _ _ _ _ h H locs ls hP hS hl)
  | bipush n =>
    obtain ⟨h1, h2⟩ : (Int8.ofInt n).toInt32 = ci ∧ len = 2 := by simpa [bt_ok2] using ho
    subst h2
    intro H locs ls hP hS hl
    exact lv_bipush hx hb hd h1 (hs _ _ _ _ h H locs ls hP hS hl)
  | sipush n =>
    obtain ⟨h1, h2⟩ : (Int16.ofInt n).toInt32 = ci ∧ len = 3 := by simpa [bt_ok2] using ho
    subst h2
    intro H locs ls hP hS hl
    exact lv_sipush hx hb hd h1 (hs _ _ _ _ h H locs ls hP hS hl)
  | lconst n =>
    obtain ⟨h1, h2⟩ : Int64.ofNat (n : Nat) = cl ∧ len = 1 := by simpa [bt_ok2] using ho
    subst h2
    intro H locs ls hP hS hl
    exact lv_lconst hx hb hd h1 (hs _ _ _ _ h H locs ls hP hS hl)
  | ldc i =>
    intro H locs ls hP hS hl
    cases tg with
    | nil =>
      obtain ⟨h1, h2⟩ : Cond.constant own i ci ∈ bt_big ∧ len = 2 := by simpa [bt_ok2] using ho
      subst h2
      exact lv_ldc hx hb hown (hts _ h1) hd (hs _ _ _ _ h H locs ls hP hS hl)
    | cons t ts =>
      obtain ⟨t0, j⟩ := t
      simp only [bt_ok2] at ho
      cases hq : bt_strs[j]? with
      | none => rw [hq] at ho; simp at ho
      | some q =>
        rw [hq] at ho
        obtain ⟨⟨h1, h3⟩, h2⟩ : (q.1 = own ∧ q.2.1 = i) ∧ len = 2 := by simpa using ho
        subst h2; subst h1; subst h3
        exact va_ldcS hx hb hown (hstr j q hq) hd (hs _ _ _ _ h H locs ls hP hS hl)
  | ldc_w i =>
    obtain ⟨h1, h2⟩ : Cond.constant own i ci ∈ bt_big ∧ len = 3 := by simpa [bt_ok2] using ho
    subst h2
    intro H locs ls hP hS hl
    exact lv_ldcw hx hb hown (hts _ h1) hd (hs _ _ _ _ h H locs ls hP hS hl)
  | ldc2_w i =>
    obtain ⟨h1, h2⟩ : Cond.constantLong own i cl ∈ bt_big ∧ len = 3 := by simpa [bt_ok2] using ho
    subst h2
    intro H locs ls hP hS hl
    exact lv_ldc2 hx hb hown (hts _ h1) hd (hs _ _ _ _ h H locs ls hP hS hl)
  | iload_n k =>
    obtain rfl : len = 1 := by simpa [bt_ok2] using ho
    intro H locs ls hP hS hl
    obtain ⟨x, hk, hg⟩ := bt_li_s hl h
    exact lv_iload_n hx hb hd rfl hg (hs _ _ _ _ hk H locs ls hP hS hl)
  | iload k =>
    obtain rfl : len = 2 := by simpa [bt_ok2] using ho
    intro H locs ls hP hS hl
    obtain ⟨x, hk, hg⟩ := bt_li_s hl h
    exact lv_iload hx hb hd hg (hs _ _ _ _ hk H locs ls hP hS hl)
  | lload_n k =>
    obtain rfl : len = 1 := by simpa [bt_ok2] using ho
    intro H locs ls hP hS hl
    obtain ⟨x, hk, hg⟩ := bt_ll_s hl h
    exact lv_lload_n hx hb hd rfl hg (hs _ _ _ _ hk H locs ls hP hS hl)
  | lload k =>
    obtain rfl : len = 2 := by simpa [bt_ok2] using ho
    intro H locs ls hP hS hl
    obtain ⟨x, hk, hg⟩ := bt_ll_s hl h
    exact lv_lload hx hb hd hg (hs _ _ _ _ hk H locs ls hP hS hl)
  | aload_n k =>
    obtain rfl : len = 1 := by simpa [bt_ok2] using ho
    intro H locs ls hP hS hl
    have h : bt_la L k.val (fun x => ks L (x :: st) M N) := h
    obtain ⟨x, a, hk, hv, hg⟩ := bt_la_s hl h
    have kk := hs _ _ _ _ hk H locs ls hP hS hl
    rw [List.map_cons, hv] at kk
    exact lv_aload_n hx hb hd rfl hg kk
  | aload k =>
    obtain rfl : len = 2 := by simpa [bt_ok2] using ho
    intro H locs ls hP hS hl
    have h : bt_la L k (fun x => ks L (x :: st) M N) := h
    obtain ⟨x, a, hk, hv, hg⟩ := bt_la_s hl h
    have kk := hs _ _ _ _ hk H locs ls hP hS hl
    rw [List.map_cons, hv] at kk
    exact lv_aload hx hb hd hg kk
  | istore_n k =>
    obtain rfl : len = 1 := by simpa [bt_ok2] using ho
    intro H locs ls hP hS hl
    obtain ⟨x, r, rfl, h⟩ := bt_k1i_s h
    obtain ⟨L', hk, hn, hL⟩ := bt_lr_s hl rfl h
    exact lv_istore_n hx hb hd rfl hl.2 hn rfl (fun ls' h' => hs _ _ _ _ hk H locs ls' hP hS (hL ls' h'))
  | istore k =>
    obtain rfl : len = 2 := by simpa [bt_ok2] using ho
    intro H locs ls hP hS hl
    obtain ⟨x, r, rfl, h⟩ := bt_k1i_s h
    obtain ⟨L', hk, hn, hL⟩ := bt_lr_s hl rfl h
    exact lv_istore hx hb hd hl.2 hn rfl (fun ls' h' => hs _ _ _ _ hk H locs ls' hP hS (hL ls' h'))
  | lstore_n k =>
    obtain rfl : len = 1 := by simpa [bt_ok2] using ho
    intro H locs ls hP hS hl
    obtain ⟨x, r, rfl, h⟩ := bt_k1l_s h
    obtain ⟨L', hk, hn, hL⟩ := bt_lr_s2 hl h
    exact lv_lstore_n hx hb hd rfl hl.2 hn rfl (fun ls' h' => hs _ _ _ _ hk H locs ls' hP hS (hL ls' h'))
  | lstore k =>
    obtain rfl : len = 2 := by simpa [bt_ok2] using ho
    intro H locs ls hP hS hl
    obtain ⟨x, r, rfl, h⟩ := bt_k1l_s h
    obtain ⟨L', hk, hn, hL⟩ := bt_lr_s2 hl h
    exact lv_lstore hx hb hd hl.2 hn rfl (fun ls' h' => hs _ _ _ _ hk H locs ls' hP hS (hL ls' h'))
  | astore_n k =>
    obtain rfl : len = 1 := by simpa [bt_ok2] using ho
    intro H locs ls hP hS hl
    obtain ⟨x, r, rfl, h⟩ := bt_kr_s h
    obtain ⟨L', hk, hn, hL⟩ := bt_lr_s hl rfl h
    exact lv_astore_n hx hb hd rfl hl.2 hn rfl (fun ls' h' => hs _ _ _ _ hk H locs ls' hP hS (hL ls' h'))
  | astore k =>
    obtain rfl : len = 2 := by simpa [bt_ok2] using ho
    intro H locs ls hP hS hl
    obtain ⟨x, r, rfl, h⟩ := bt_kr_s h
    obtain ⟨L', hk, hn, hL⟩ := bt_lr_s hl rfl h
    exact lv_astore hx hb hd hl.2 hn rfl (fun ls' h' => hs _ _ _ _ hk H locs ls' hP hS (hL ls' h'))
  | iinc k n =>
    obtain ⟨h1, h2⟩ : Int32.ofInt n = ci ∧ len = 3 := by simpa [bt_ok2] using ho
    subst h2
    intro H locs ls hP hS hl
    obtain ⟨v, hv, hm⟩ := bt_lg_s (bt_tr ad fa) L k 0 _ h
    rw [Nat.zero_add] at hm
    obtain ⟨x, rfl, hv⟩ : ∃ x, v = .int x ∧ bt_ls L k (.int (x + ci)) (fun L' => ks L' st M N) := by
      split at hv
      · exact ⟨_, rfl, hv⟩
      · exact False.elim hv
    obtain ⟨L', hk, hn, hL⟩ := bt_lr_s hl rfl hv
    obtain ⟨q, hq⟩ := List.getElem?_of_mem hm
    exact lv_iinc hx hb hd hl.2 hq (by rw [h1]) hn rfl (fun ls' h' => hs _ _ _ _ hk H locs ls' hP hS (hL ls' h'))
  | iadd =>
    obtain rfl : len = 1 := by simpa [bt_ok2] using ho
    intro H locs ls hP hS hl
    obtain ⟨a, b, r, rfl, h⟩ := bt_k2i_s h
    exact lv_iadd hx hb hd (hs _ _ _ _ h H locs ls hP hS hl)
  | isub =>
    obtain rfl : len = 1 := by simpa [bt_ok2] using ho
    intro H locs ls hP hS hl
    obtain ⟨a, b, r, rfl, h⟩ := bt_k2i_s h
    exact lv_isub hx hb hd (hs _ _ _ _ h H locs ls hP hS hl)
  | imul =>
    obtain rfl : len = 1 := by simpa [bt_ok2] using ho
    intro H locs ls hP hS hl
    obtain ⟨a, b, r, rfl, h⟩ := bt_k2i_s h
    exact lv_imul hx hb hd (hs _ _ _ _ h H locs ls hP hS hl)
  | iand =>
    obtain rfl : len = 1 := by simpa [bt_ok2] using ho
    intro H locs ls hP hS hl
    obtain ⟨a, b, r, rfl, h⟩ := bt_k2i_s h
    exact lv_iand hx hb hd (hs _ _ _ _ h H locs ls hP hS hl)
  | ior =>
    obtain rfl : len = 1 := by simpa [bt_ok2] using ho
    intro H locs ls hP hS hl
    obtain ⟨a, b, r, rfl, h⟩ := bt_k2i_s h
    exact lv_ior hx hb hd (hs _ _ _ _ h H locs ls hP hS hl)
  | ixor =>
    obtain rfl : len = 1 := by simpa [bt_ok2] using ho
    intro H locs ls hP hS hl
    obtain ⟨a, b, r, rfl, h⟩ := bt_k2i_s h
    exact lv_ixor hx hb hd (hs _ _ _ _ h H locs ls hP hS hl)
  | irem =>
    obtain rfl : len = 1 := by simpa [bt_ok2] using ho
    intro H locs ls hP hS hl
    obtain ⟨a, b, r, rfl, h0, h⟩ := bt_k2i_s h
    exact lv_irem hx hb hd h0 (hs _ _ _ _ h H locs ls hP hS hl)
  | ishl =>
    obtain rfl : len = 1 := by simpa [bt_ok2] using ho
    intro H locs ls hP hS hl
    obtain ⟨a, b, r, rfl, h⟩ := bt_k2i_s h
    exact lv_ishl hx hb hd (hs _ _ _ _ h H locs ls hP hS hl)
  | ishr =>
    obtain rfl : len = 1 := by simpa [bt_ok2] using ho
    intro H locs ls hP hS hl
    obtain ⟨a, b, r, rfl, h⟩ := bt_k2i_s h
    exact lv_ishr hx hb hd (hs _ _ _ _ h H locs ls hP hS hl)
  | iushr =>
    obtain rfl : len = 1 := by simpa [bt_ok2] using ho
    intro H locs ls hP hS hl
    obtain ⟨a, b, r, rfl, h⟩ := bt_k2i_s h
    exact lv_iushr hx hb hd rfl (hs _ _ _ _ h H locs ls hP hS hl)
  | i2l =>
    obtain rfl : len = 1 := by simpa [bt_ok2] using ho
    intro H locs ls hP hS hl
    obtain ⟨a, r, rfl, h⟩ := bt_k1i_s h
    exact lv_i2l hx hb hd rfl (hs _ _ _ _ h H locs ls hP hS hl)
  | i2b =>
    obtain rfl : len = 1 := by simpa [bt_ok2] using ho
    intro H locs ls hP hS hl
    obtain ⟨a, r, rfl, h⟩ := bt_k1i_s h
    exact lv_i2b hx hb hd rfl (hs _ _ _ _ h H locs ls hP hS hl)
  | i2s =>
    obtain rfl : len = 1 := by simpa [bt_ok2] using ho
    intro H locs ls hP hS hl
    obtain ⟨a, r, rfl, h⟩ := bt_k1i_s h
    exact lv_i2s hx hb hd rfl (hs _ _ _ _ h H locs ls hP hS hl)
  | ladd =>
    obtain rfl : len = 1 := by simpa [bt_ok2] using ho
    intro H locs ls hP hS hl
    obtain ⟨a, b, r, rfl, h⟩ := bt_k2l_s h
    exact lv_ladd hx hb hd (hs _ _ _ _ h H locs ls hP hS hl)
  | lsub =>
    obtain rfl : len = 1 := by simpa [bt_ok2] using ho
    intro H locs ls hP hS hl
    obtain ⟨a, b, r, rfl, h⟩ := bt_k2l_s h
    exact lv_lsub hx hb hd (hs _ _ _ _ h H locs ls hP hS hl)
  | lmul =>
    obtain rfl : len = 1 := by simpa [bt_ok2] using ho
    intro H locs ls hP hS hl
    obtain ⟨a, b, r, rfl, h⟩ := bt_k2l_s h
    exact lv_lmul hx hb hd (hs _ _ _ _ h H locs ls hP hS hl)
  | ldiv =>
    obtain rfl : len = 1 := by simpa [bt_ok2] using ho
    intro H locs ls hP hS hl
    obtain ⟨a, b, r, rfl, h0, h⟩ := bt_k2l_s h
    exact lv_ldiv hx hb hd h0 (hs _ _ _ _ h H locs ls hP hS hl)
  | lrem =>
    obtain rfl : len = 1 := by simpa [bt_ok2] using ho
    intro H locs ls hP hS hl
    obtain ⟨a, b, r, rfl, h0, h⟩ := bt_k2l_s h
    exact lv_lrem hx hb hd h0 (hs _ _ _ _ h H locs ls hP hS hl)
  | lneg =>
    obtain rfl : len = 1 := by simpa [bt_ok2] using ho
    intro H locs ls hP hS hl
    obtain ⟨a, r, rfl, h⟩ := bt_k1l_s h
    exact lv_lneg hx hb hd (hs _ _ _ _ h H locs ls hP hS hl)
  | lcmp =>
    obtain rfl : len = 1 := by simpa [bt_ok2] using ho
    intro H locs ls hP hS hl
    obtain ⟨a, b, r, rfl, h⟩ := bt_k2l_s h
    exact W.lcmp hx hb hd (hs _ _ _ _ h H locs ls hP hS hl)
  | dup =>
    obtain rfl : len = 1 := by simpa [bt_ok2] using ho
    intro H locs ls hP hS hl
    obtain ⟨v, r, rfl, h1, h⟩ := bt_k1_s h
    exact lv_dup hx hb hd (by rw [bt_tr_cat]; exact h1) (hs _ _ _ _ h H locs ls hP hS hl)
  | pop =>
    obtain rfl : len = 1 := by simpa [bt_ok2] using ho
    intro H locs ls hP hS hl
    obtain ⟨v, r, rfl, h1, h⟩ := bt_k1_s h
    exact lv_pop hx hb hd (by rw [bt_tr_cat]; exact h1) (hs _ _ _ _ h H locs ls hP hS hl)
  | dup2 =>
    obtain rfl : len = 1 := by simpa [bt_ok2] using ho
    intro H locs ls hP hS hl
    obtain ⟨v, w, r, rfl, h1, h2, h⟩ := bt_k2_s h
    exact lv_dup2_11 hx hb hd (by rw [bt_tr_cat]; exact h1) (by rw [bt_tr_cat]; exact h2) (hs _ _ _ _ h H locs ls hP hS hl)
  | goto o =>
    obtain ⟨h1, rfl⟩ : bt_tgok pc o tg = true ∧ len = 3 := by simpa [bt_ok2] using ho
    intro H locs ls hP hS hl
    obtain ⟨t, ht, h⟩ := bt_tg_s h h1
    exact lv_goto hx hb hd ht (hj _ _ _ _ _ h H locs ls hP hS hl)
  | if_icmp b o =>
    obtain ⟨h1, rfl⟩ : bt_tgok pc o tg = true ∧ len = 3 := by simpa [bt_ok2] using ho
    intro H locs ls hP hS hl
    obtain ⟨x, y, r, rfl, h⟩ := bt_k2i_s h
    obtain ⟨t, ht, h⟩ := bt_tg_s h h1
    cases b with
    | eq => exact lv_icmp_eq hx hb hd ht (fun q => hj _ _ _ _ _ (h.1 q) H locs ls hP hS hl) (fun q => hs _ _ _ _ (h.2 q) H locs ls hP hS hl)
    | ne => exact lv_icmp_ne hx hb hd ht (fun q => hj _ _ _ _ _ (h.1 q) H locs ls hP hS hl) (fun q => hs _ _ _ _ (h.2 q) H locs ls hP hS hl)
    | lt => exact lv_icmp_lt hx hb hd ht (fun q => hj _ _ _ _ _ (h.1 q) H locs ls hP hS hl) (fun q => hs _ _ _ _ (h.2 q) H locs ls hP hS hl)
    | ge => exact lv_icmp_ge hx hb hd ht (fun q => hj _ _ _ _ _ (h.1 q) H locs ls hP hS hl) (fun q => hs _ _ _ _ (h.2 q) H locs ls hP hS hl)
    | gt => exact lv_icmp_gt hx hb hd ht (fun q => hj _ _ _ _ _ (h.1 q) H locs ls hP hS hl) (fun q => hs _ _ _ _ (h.2 q) H locs ls hP hS hl)
    | le => exact lv_icmp_le hx hb hd ht (fun q => hj _ _ _ _ _ (h.1 q) H locs ls hP hS hl) (fun q => hs _ _ _ _ (h.2 q) H locs ls hP hS hl)
  | ifCond b o =>
    obtain ⟨h1, rfl⟩ : bt_tgok pc o tg = true ∧ len = 3 := by simpa [bt_ok2] using ho
    intro H locs ls hP hS hl
    obtain ⟨x, r, rfl, h⟩ := bt_k1i_s h
    obtain ⟨t, ht, h⟩ := bt_tg_s h h1
    cases b with
    | eq => exact lv_if_eq hx hb hd ht (fun q => hj _ _ _ _ _ (h.1 q) H locs ls hP hS hl) (fun q => hs _ _ _ _ (h.2 q) H locs ls hP hS hl)
    | ne => exact lv_if_ne hx hb hd ht (fun q => hj _ _ _ _ _ (h.1 q) H locs ls hP hS hl) (fun q => hs _ _ _ _ (h.2 q) H locs ls hP hS hl)
    | lt => exact lv_if_lt hx hb hd ht (fun q => hj _ _ _ _ _ (h.1 q) H locs ls hP hS hl) (fun q => hs _ _ _ _ (h.2 q) H locs ls hP hS hl)
    | ge => exact lv_if_ge hx hb hd ht (fun q => hj _ _ _ _ _ (h.1 q) H locs ls hP hS hl) (fun q => hs _ _ _ _ (h.2 q) H locs ls hP hS hl)
    | gt => exact lv_if_gt hx hb hd ht (fun q => hj _ _ _ _ _ (h.1 q) H locs ls hP hS hl) (fun q => hs _ _ _ _ (h.2 q) H locs ls hP hS hl)
    | le => exact lv_if_le hx hb hd ht (fun q => hj _ _ _ _ _ (h.1 q) H locs ls hP hS hl) (fun q => hs _ _ _ _ (h.2 q) H locs ls hP hS hl)
  | tableswitch d lo hi offs =>
    intro H locs ls hP hS hl
    obtain ⟨x, r, rfl, h⟩ := bt_k1i_s h
    cases tg with
    | nil => exact False.elim h
    | cons t ts =>
      obtain ⟨t0, t⟩ := t
      obtain ⟨⟨h1, h2⟩, h3⟩ : ((pc : Int) + d = (t : Int) ∧ bt_swok pc lo ts offs.toList = true) ∧ hi = lo + ts.length - 1 := by simpa [bt_ok2] using ho
      obtain ⟨h4, h5⟩ := bt_swok_s h2
      rcases bt_sw_s h with ⟨j, q, hq, rfl, hk⟩ | ⟨hn, hk⟩
      · obtain ⟨g1, o, g2, g3⟩ := h5 j q hq
        have hjl : j < ts.length := (List.getElem?_eq_some_iff.mp hq).1
        refine lv_tableIn (off := o) (tgt := q.2) hx hb hd (by omega) (by omega) ?_ g3 (hj _ _ _ _ _ hk H locs ls hP hS hl)
        rw [← Array.getElem?_toList, show (q.1.toInt - lo).toNat = j by omega]
        exact g2
      · refine lv_tableOut hx hb hd ?_ h1 (hj _ _ _ _ _ hk H locs ls hP hS hl)
        rcases Int.lt_or_le x.toInt lo with hl1 | hl1
        · exact Or.inl hl1
        · right
          rcases Int.lt_or_le hi x.toInt with hl2 | hl2
          · exact hl2
          · exfalso
            have hjl : (x.toInt - lo).toNat < ts.length := by omega
            have hq := List.getElem?_eq_getElem hjl
            have g1 := (h5 _ _ hq).1
            exact hn _ _ hq (Int32.toInt_inj.mp (by rw [g1]; omega))
  | iaload =>
    obtain rfl : len = 1 := by simpa [bt_ok2] using ho
    intro H locs ls hP hS hl
    rcases bt_kir_s h with ⟨i, a, r, rfl, n, hsh, j, hi, hjn, hk⟩ | ⟨i, r, rfl, j, hi, hjn, hk⟩
    · obtain ⟨h1, h2⟩ := bt_nIix hi hjn (bt_sh_n hsh)
      have kk := hs _ _ _ _ hk H locs ls hP hS hl
      refine va_iald hx hb hK hP a 0 (n := n) (f := M a) ?_ rfl h1 hd (by rw [h2]; exact kk)
      rw [bt_ws_get (bt_sh_lt hsh (by omega)), bt_ct_a hsh]
      rfl
    · cases SL with
      | zero => omega
      | succ S =>
        obtain ⟨hX, hb0, hbig⟩ := hsc S rfl
        have kk := hs _ _ _ _ hk H locs ls hP hS hl
        obtain ⟨h1, h2⟩ := bt_nIix hi (Nat.lt_of_succ_lt_succ hjn) hbig
        exact va_sld hx hb hX (by omega) (Nat.not_le.mpr hb0) hS h1 hd (by rw [h2]; exact kk)
  | baload =>
    obtain rfl : len = 1 := by simpa [bt_ok2] using ho
    intro H locs ls hP hS hl
    rcases bt_kir_s h with ⟨i, a, r, rfl, h8⟩ | ⟨i, r, rfl, h8⟩
    · split at h8
      · obtain ⟨n, hsh, j, hi, hjn, hk⟩ := h8
        obtain ⟨h1, h2⟩ := bt_nIix hi hjn (bt_sh_n hsh)
        have kk := hs _ _ _ _ hk H locs ls hP hS hl
        refine va_bald hx hb hK hP a 2 (n := n) (f := M a) ?_ rfl h1 hd (by rw [h2]; exact kk)
        rw [bt_ws_get (bt_sh_lt hsh (by omega)), bt_ct_a hsh]
        rfl
      · obtain ⟨n, hsh, j, hi, hjn, hk⟩ := h8
        obtain ⟨h1, h2⟩ := bt_nIix hi hjn (bt_sh_n hsh)
        have kk := hs _ _ _ _ hk H locs ls hP hS hl
        refine va_zald hx hb hK hP a 3 (n := n) (f := M a) ?_ rfl h1 hd (by rw [h2]; exact kk)
        rw [bt_ws_get (bt_sh_lt hsh (by omega)), bt_ct_a hsh]
        rfl
      · exact False.elim h8
    · exact False.elim h8
  | laload =>
    obtain rfl : len = 1 := by simpa [bt_ok2] using ho
    intro H locs ls hP hS hl
    rcases bt_kir_s h with ⟨i, a, r, rfl, n, hsh, j, hi, hjn, hk⟩ | ⟨i, r, rfl, h⟩
    · obtain ⟨h1, h2⟩ := bt_nIix hi hjn (bt_sh_n hsh)
      have kk := hs _ _ _ _ hk H locs ls hP hS hl
      refine va_lald hx hb hK hP a 1 (n := n) (f := N a) ?_ rfl h1 hd (by rw [h2]; exact kk)
      rw [bt_ws_get (bt_sh_lt hsh (by omega)), bt_ct_a hsh]
      rfl
    · exact False.elim h
  | aaload =>
    obtain rfl : len = 1 := by simpa [bt_ok2] using ho
    intro H locs ls hP hS hl
    rcases bt_kir_s h with ⟨i, a, r, rfl, h8⟩ | ⟨i, r, rfl, h8⟩
    · split at h8
      · obtain ⟨n, hsh, j, hi, hjn, hk⟩ := h8
        obtain ⟨h1, h2⟩ := bt_nIix hi hjn (bt_sh_n hsh)
        have kk := hs _ _ _ _ hk H locs ls hP hS hl
        refine va_aldq hx hb hK hP a 4 (n := n) (f := fun k => some (ad (bt_rf a k))) ?_ rfl h1 hd (by rw [h2]; exact kk)
        rw [bt_ws_get (bt_sh_lt hsh (by omega)), bt_ct_a hsh]
        rfl
      · obtain ⟨n, hsh, j, hi, hjn, hk⟩ := h8
        obtain ⟨h1, h2⟩ := bt_nIix hi hjn (bt_sh_n hsh)
        have kk := hs _ _ _ _ hk H locs ls hP hS hl
        refine va_aldq hx hb hK hP a 5 (n := n) (f := fun k => some (ad (bt_rf a k))) ?_ rfl h1 hd (by rw [h2]; exact kk)
        rw [bt_ws_get (bt_sh_lt hsh (by omega)), bt_ct_a hsh]
        rfl
      · obtain ⟨n, hsh, j, hi, hjn, hk⟩ := h8
        obtain ⟨h1, h2⟩ := bt_nIix hi hjn (bt_sh_n hsh)
        have kk := hs _ _ _ _ hk H locs ls hP hS hl
        have ha : (bt_ws ca ad M N)[a]? = some (ad a, .inl (ca 6, n, .inr (.inr (.inr (.inr (fun k => some (ad (bt_rf a k)))))))) := by
          rw [bt_ws_get (bt_sh_lt hsh (by omega)), bt_ct_a hsh]
          rfl
        have hlt : i.toNatClampNeg < n := by omega
        refine W.aald (v := .ref (ad (bt_rf a j))) (ty := .array .int) hx hb (hP a _ ha) ((hK.2 6 _ rfl).1 n (fun k => va_rf (some (ad (bt_rf a k))))) rfl (fun q => by cases q) (by show ¬ (i < 0 ∨ (arrV _ _ _).slots.size ≤ _); rw [arrV_size]; exact h1) (by show (arrV _ _ _).slots[_]? = _; rw [arrV_read _ _ hlt, h2]; rfl) rfl rfl hd kk
      · exact False.elim h8
    · exact False.elim h8
  | iastore =>
    obtain rfl : len = 1 := by simpa [bt_ok2] using ho
    intro H locs ls hP hS hl
    obtain ⟨x, i, a, r, rfl, n, hsh, j, hi, hjn, hk⟩ := bt_kxir_s h
    obtain ⟨h1, h2⟩ := bt_nIix hi hjn (bt_sh_n hsh)
    refine va_iast hx hb hK hP (hDD M N) hS a 0 (n := n) (f := M a) ?_ rfl h1 hd (fun H1 locs1 hP1 hD1 hS1 => ?_)
    · rw [bt_ws_get (bt_sh_lt hsh (by omega)), bt_ct_a hsh]
      rfl
    · rw [h2, bt_ws_aI hsh (Or.inl rfl)] at hP1
      exact hs _ _ _ _ (hk _ rfl) H1 locs1 ls hP1 hS1 hl
  | bastore =>
    obtain rfl : len = 1 := by simpa [bt_ok2] using ho
    intro H locs ls hP hS hl
    obtain ⟨x, i, a, r, rfl, h8⟩ := bt_kxir_s h
    split at h8
    · obtain ⟨n, hsh, j, hi, hjn, hk⟩ := h8
      obtain ⟨h1, h2⟩ := bt_nIix hi hjn (bt_sh_n hsh)
      refine va_bast hx hb hK hP (hDD M N) hS a 2 (n := n) (f := M a) ?_ rfl h1 hd (fun H1 locs1 hP1 hD1 hS1 => ?_)
      · rw [bt_ws_get (bt_sh_lt hsh (by omega)), bt_ct_a hsh]
        rfl
      · rw [h2, bt_ws_aI hsh (Or.inr (Or.inl rfl)), vp_nar_byte] at hP1
        exact hs _ _ _ _ (hk _ rfl) H1 locs1 ls hP1 hS1 hl
    · obtain ⟨n, hsh, j, hi, hjn, hk⟩ := h8
      obtain ⟨h1, h2⟩ := bt_nIix hi hjn (bt_sh_n hsh)
      refine va_zast hx hb hK hP (hDD M N) hS a 3 (n := n) (f := M a) ?_ rfl h1 hd (fun H1 locs1 hP1 hD1 hS1 => ?_)
      · rw [bt_ws_get (bt_sh_lt hsh (by omega)), bt_ct_a hsh]
        rfl
      · rw [h2, bt_ws_aI hsh (Or.inr (Or.inr rfl)), show vp_nar .boolean x = x &&& 1 from rfl] at hP1
        exact hs _ _ _ _ (hk _ rfl) H1 locs1 ls hP1 hS1 hl
    · exact False.elim h8
  | lastore =>
    obtain rfl : len = 1 := by simpa [bt_ok2] using ho
    intro H locs ls hP hS hl
    obtain ⟨x, i, a, r, rfl, n, hsh, j, hi, hjn, hk⟩ := bt_klir_s h
    obtain ⟨h1, h2⟩ := bt_nIix hi hjn (bt_sh_n hsh)
    refine va_last hx hb hK hP (hDD M N) hS a 1 (n := n) (f := N a) ?_ rfl h1 hd (fun H1 locs1 hP1 hD1 hS1 => ?_)
    · rw [bt_ws_get (bt_sh_lt hsh (by omega)), bt_ct_a hsh]
      rfl
    · rw [h2, bt_ws_aL hsh] at hP1
      exact hs _ _ _ _ (hk _ rfl) H1 locs1 ls hP1 hS1 hl
  | arraylength =>
    obtain rfl : len = 1 := by simpa [bt_ok2] using ho
    intro H locs ls hP hS hl
    simp only [bt_wp1] at h
    split at h
    · cases SL with
      | zero => exact False.elim h
      | succ S =>
        obtain ⟨hX, hb0, hbig⟩ := hsc S rfl
        exact va_slen hx hb hX (by omega) (Nat.not_le.mpr hb0) hS hd (hs _ _ _ _ h H locs ls hP hS hl)
    · exact False.elim h
  | getfield i =>
    obtain rfl : len = 3 := by simpa [bt_ok2] using ho
    intro H locs ls hP hS hl
    obtain ⟨a, r, rfl, h8⟩ := bt_kr_s h
    obtain ⟨ci, f, hm, h8⟩ := bt_fl_s h8
    obtain ⟨n, hsh, h8⟩ := bt_ob_s h8
    obtain ⟨q, hq⟩ := bt_sh_c hsh
    obtain ⟨C, T, NF⟩ := q
    have hft : bt_ft ci f ≤ 2 := by
      unfold bt_gf at h8
      split at h8
      · omega
      · omega
      · omega
      · exact False.elim h8
    have hlt := bt_ft_lt hq hft
    have hnf := bt_clN ci _ hq
    have hw : (bt_ws ca ad M N)[a]? = some (ad a, .inr (ci, (List.range (bt_nf ci)).map (bt_fv ad M N a ci))) := by
      rw [bt_ws_get (bt_sh_lt hsh (by omega)), bt_ct_o hsh]
    have hv : ((List.range (bt_nf ci)).map (bt_fv ad M N a ci))[f]? = some (bt_fv ad M N a ci f) := by
      dsimp only at hnf hlt
      rw [← hnf]
      simp [hlt]
    have hdc := bt_clD ci _ hq f hlt
    dsimp only at hdc
    refine va_get (ref := C) hx hb hts (bt_clW ci _ hq) hown hK hP a hw hq f hlt (hts _ (hF _ hm _ hq)) (by rw [hdc]; exact fun x hx => hx) hv hd ?_
    unfold bt_gf at h8
    split at h8
    · next e => rw [show bt_fv ad M N a ci f = .int (M a f) by simp [bt_fv, e]]; exact hs _ _ _ _ h8 H locs ls hP hS hl
    · next e => rw [show bt_fv ad M N a ci f = .long (N a f) by simp [bt_fv, e]]; exact hs _ _ _ _ h8 H locs ls hP hS hl
    · next e =>
      rw [show bt_fv ad M N a ci f = .ref (ad (bt_rf a f)) by simp [bt_fv, e]]
      rw [bt_atk_s, ← bt_rf_o hsh] at h8
      exact hs _ _ _ _ h8 H locs ls hP hS hl
    · exact False.elim h8
  | putfield i =>
    obtain rfl : len = 3 := by simpa [bt_ok2] using ho
    intro H locs ls hP hS hl
    have h8 : bt_pf FL i st M N (fun r M' N' => ks L r M' N') := h
    unfold bt_pf at h8
    split at h8
    · next x a r =>
      obtain ⟨ci, f, hm, h8⟩ := bt_fl_s h8
      obtain ⟨n, hsh, h8⟩ := bt_ob_s h8
      split at h8
      · next e0 =>
        obtain ⟨q, hq⟩ := bt_sh_c hsh
        obtain ⟨C, T, NF⟩ := q
        have hlt := bt_ft_lt hq (by omega : bt_ft ci f ≤ 2)
        have hnf := bt_clN ci _ hq
        have hw : (bt_ws ca ad M N)[a]? = some (ad a, .inr (ci, (List.range (bt_nf ci)).map (bt_fv ad M N a ci))) := by
          rw [bt_ws_get (bt_sh_lt hsh (by omega)), bt_ct_o hsh]
        obtain ⟨hfin, hpd⟩ := bt_clT ci _ hq f hlt (by omega)
        rw [if_pos e0] at hpd
        have hdc := bt_clD ci _ hq f hlt
        obtain ⟨ty, hty⟩ := bt_clY ci _ hq
        dsimp only at hdc hnf hlt
        refine va_put (ref := C) (ty := .int) (v := .int x) hx hb hts (bt_clW ci _ hq) ty hty (bt_clX ci _ hq) hown hK hP (hDD M N) hS a hw hq f hlt (hts _ (hF _ hm _ hq)) (by rw [hdc]; exact fun x hx => hx) hfin hpd rfl rfl (by simp; omega) hd (fun H1 locs1 hP1 hD1 hS1 => ?_)
        rw [bt_ws_pI hsh e0] at hP1
        exact hs _ _ _ _ (h8 _ rfl) H1 locs1 ls hP1 hS1 hl
      · exact False.elim h8
    · next x a r =>
      obtain ⟨ci, f, hm, h8⟩ := bt_fl_s h8
      obtain ⟨n, hsh, h8⟩ := bt_ob_s h8
      split at h8
      · next e0 =>
        obtain ⟨q, hq⟩ := bt_sh_c hsh
        obtain ⟨C, T, NF⟩ := q
        have hlt := bt_ft_lt hq (by omega : bt_ft ci f ≤ 2)
        have hnf := bt_clN ci _ hq
        have hw : (bt_ws ca ad M N)[a]? = some (ad a, .inr (ci, (List.range (bt_nf ci)).map (bt_fv ad M N a ci))) := by
          rw [bt_ws_get (bt_sh_lt hsh (by omega)), bt_ct_o hsh]
        obtain ⟨hfin, hpd⟩ := bt_clT ci _ hq f hlt (by omega)
        rw [if_neg (by omega)] at hpd
        have hdc := bt_clD ci _ hq f hlt
        obtain ⟨ty, hty⟩ := bt_clY ci _ hq
        dsimp only at hdc hnf hlt
        refine va_put (ref := C) (ty := .long) (v := .long x) hx hb hts (bt_clW ci _ hq) ty hty (bt_clX ci _ hq) hown hK hP (hDD M N) hS a hw hq f hlt (hts _ (hF _ hm _ hq)) (by rw [hdc]; exact fun x hx => hx) hfin hpd rfl rfl (by simp; omega) hd (fun H1 locs1 hP1 hD1 hS1 => ?_)
        rw [bt_ws_pL hsh e0] at hP1
        exact hs _ _ _ _ (h8 _ rfl) H1 locs1 ls hP1 hS1 hl
      · exact False.elim h8
    · exact False.elim h8
  | invokestatic i =>
    obtain rfl : len = 3 := by simpa [bt_ok2] using ho
    obtain ⟨na, sp, hm, hk⟩ := bt_call_s h
    exact hC _ hm pc L st M N _ (Or.inl ⟨rfl, hd⟩) hk (fun st' M' N' q => hs _ _ _ _ q)
  | invokevirtual i =>
    obtain rfl : len = 3 := by simpa [bt_ok2] using ho
    obtain ⟨na, sp, hm, hk⟩ := bt_call_s h
    exact hC _ hm pc L st M N _ (Or.inr ⟨rfl, hd⟩) hk (fun st' M' N' q => hs _ _ _ _ q)
  | ireturn =>
    obtain rfl : len = 1 := by simpa [bt_ok2] using ho
    obtain ⟨x, r, rfl, h8⟩ := bt_k1i_s h
    unfold bt_ir at h8
    split at h8
    · split at h8
      · exact hR.2.1 rfl pc L M N x hd h8
      · exact hR.2.2.1 rfl pc L M N x hd h8.1 h8.2
      · exact False.elim h8
    · exact False.elim h8
  | lreturn =>
    obtain rfl : len = 1 := by simpa [bt_ok2] using ho
    obtain ⟨x, r, rfl, h8⟩ := bt_k1l_s h
    split at h8
    · exact hR.2.2.2 rfl pc L M N x hd h8
    · exact False.elim h8
  | return_ =>
    obtain rfl : len = 1 := by simpa [bt_ok2] using ho
    simp only [bt_wp1] at h
    split at h
    · exact hR.1 rfl pc L M N hd h
    · exact False.elim h
  | _ => exact False.elim h
end
section
/-! RUNS: from one instruction to a method -/
abbrev bt_P : Type := Nat → bt_L → List Value → bt_M → bt_N → Prop
/-- P is closed backwards under the code -/
def bt_cls (T : List bt_E) (FL : bt_F) (CT : bt_C) (rt SL : Nat) (xs : Nat → Int32) (Rt : bt_R) (P : bt_P) : Prop := ∀ (en : bt_E) (is : List bt_E), (en :: is) <:+ T → ∀ L st M N ks kj, bt_wp1 FL CT rt SL xs Rt en L st M N ks kj →
  (∀ L' st' M' N', ks L' st' M' N' → P (en.1 + en.2.2.1) L' st' M' N') → (∀ t L' st' M' N', kj t L' st' M' N' → P t L' st' M' N') → P en.1 L st M N
theorem bt_adj_tl {a b : bt_E} {t : List bt_E} (h : bt_adj (a :: b :: t) = true) : a.1 + a.2.2.1 = b.1 ∧ bt_adj (b :: t) = true := by
  simp only [bt_adj, Bool.and_eq_true, beq_iff_eq] at h
  exact h
theorem bt_adj_suf {T is : List bt_E} (h : bt_adj T = true) (hs : is <:+ T) : bt_adj is = true := by
  obtain ⟨pre, rfl⟩ := hs
  induction pre with
  | nil => exact h
  | cons a pre ih =>
    apply ih
    cases hp : pre ++ is with
    | nil => rfl
    | cons b t =>
      rw [List.cons_append, hp] at h
      exact (bt_adj_tl h).2
theorem bt_suf_s : ∀ {T : List bt_E} {t : Nat} {e : bt_E} {is : List bt_E}, bt_suf T t = e :: is → e.1 = t ∧ (e :: is) <:+ T
  | [], _, _, _, h => by cases h
  | a :: r, t, e, is, h => by
    unfold bt_suf at h
    split at h
    · next hb =>
      cases h
      exact ⟨Nat.eq_of_beq_eq_true hb, List.suffix_refl _⟩
    · obtain ⟨h1, h2⟩ := bt_suf_s h
      exact ⟨h1, h2.trans (List.suffix_cons _ _)⟩
section BTR
variable {T : List bt_E} {FL : bt_F} {CT : bt_C} {rt SL : Nat} {xs : Nat → Int32} {Rt : bt_R} {P : bt_P} {S : List Nat} {K : bt_P}
theorem bt_run0 (hT : bt_adj T = true) (hP : bt_cls T FL CT rt SL xs Rt P) (hK : ∀ pc L st M N, K pc L st M N → P pc L st M N) : ∀ (n : Nat) (en : bt_E) (is : List bt_E) (L : bt_L) (st : List Value) (M : bt_M) (N : bt_N), (en :: is) <:+ T → bt_wp T FL CT rt SL xs Rt S K n (en :: is) L st M N → P en.1 L st M N := by
  intro n
  induction n with
  | zero => intro en is L st M N _ h; exact False.elim h
  | succ n ih =>
    intro en is L st M N hs h
    refine hP en is hs L st M N _ _ h (fun L' st' M' N' h' => ?_) (fun t L' st' M' N' h' => ?_)
    · cases is with
      | nil => exact False.elim h'
      | cons e' is =>
        have ha := (bt_adj_tl (bt_adj_suf hT hs)).1
        rw [ha]
        have h' : (match bt_el S e'.1 with
          | true => K e'.1 L' st' M' N'
          | false => bt_wp T FL CT rt SL xs Rt S K n (e' :: is) L' st' M' N') := h'
        split at h'
        · exact hK _ _ _ _ _ h'
        · exact ih e' is L' st' M' N' ((List.suffix_cons _ _).trans hs) h'
    · have h' : (match bt_el S t with
          | true => K t L' st' M' N'
          | false => bt_wp T FL CT rt SL xs Rt S K n (bt_suf T t) L' st' M' N') := h'
      split at h'
      · exact hK _ _ _ _ _ h'
      · cases hq : bt_suf T t with
        | nil =>
          rw [hq] at h'
          cases n <;> exact False.elim h'
        | cons e' is' =>
          rw [hq] at h'
          obtain ⟨g1, g2⟩ := bt_suf_s hq
          rw [← g1]
          exact ih e' is' L' st' M' N' g2 h'
/-- from a place on, up to the stops -/
theorem bt_go (hT : bt_adj T = true) (hP : bt_cls T FL CT rt SL xs Rt P) (n : Nat) (S : List Nat) (K : bt_P) (hK : ∀ pc L st M N, K pc L st M N → P pc L st M N) {pc : Nat} {L : bt_L} {st : List Value} {M : bt_M} {N : bt_N} (h : bt_wp T FL CT rt SL xs Rt S K n (bt_suf T pc) L st M N) : P pc L st M N := by
  cases hq : bt_suf T pc with
  | nil =>
    rw [hq] at h
    cases n <;> exact False.elim h
  | cons e' is' =>
    rw [hq] at h
    obtain ⟨g1, g2⟩ := bt_suf_s hq
    rw [← g1]
    exact bt_run0 hT hP hK n e' is' L st M N g2 h
/-- no stop -/
theorem bt_go0 (hT : bt_adj T = true) (hP : bt_cls T FL CT rt SL xs Rt P) (n : Nat) {pc : Nat} {L : bt_L} {st : List Value} {M : bt_M} {N : bt_N} (h : bt_wp T FL CT rt SL xs Rt [] P n (bt_suf T pc) L st M N) : P pc L st M N := bt_go hT hP n [] P (fun _ _ _ _ _ h => h) h
/-- loops: a measure, an invariant at the stops -/
theorem bt_loop (hT : bt_adj T = true) (hP : bt_cls T FL CT rt SL xs Rt P) (n : Nat) (S : List Nat) (I : Nat → bt_P) (h : ∀ u pc L st M N, I u pc L st M N → bt_wp T FL CT rt SL xs Rt S (fun pc' L' st' M' N' => ∃ u', u' < u ∧ I u' pc' L' st' M' N') n (bt_suf T pc) L st M N) : ∀ u pc L st M N, I u pc L st M N → P pc L st M N := by
  intro u
  induction u using Nat.strongRecOn with
  | _ u ih =>
    intro pc L st M N hI
    exact bt_go hT hP n S _ (fun pc' L' st' M' N' ⟨u', h1, h2⟩ => ih u' h1 pc' L' st' M' N' h2) (h u pc L st M N hI)
end BTR
def bt_en : Nat → List Value → bt_L
  | n, [] => List.replicate n none
  | n, v :: t => (match bt_c1 v with
    | true => some v :: bt_en (n - 1) t
    | false => some v :: none :: bt_en (n - 2) t)
/-- a method does what its spec says -/
def bt_MT (T : List bt_E) (FL : bt_F) (CT : bt_C) (rt nL : Nat) (sp : bt_Sp) : Prop := ∀ as M N Rt, sp as M N Rt → ∀ P, bt_cls T FL CT rt 0 (fun _ => 0) Rt P → P 0 (bt_en nL as) [] M N
def bt_Pc (y : bt_Y) (as : List Value) (M : bt_M) (N : bt_N) : Array Value → State → Prop := match y with
  | (dC, dI, ca, ad, fa, base) => va_Pc (as.map (bt_tr ad fa)) (fun U => bt_Kn (dC, dI, ca, ad, fa, base) U U.heap ∧ base ≤ U.heap.size ∧ va_P (dC, dI) bt_cl (bt_ws ca ad M N) U.heap)
def bt_Qc (y : bt_Y) (Rt : bt_R) : Array Value → State → Outcome → State → Prop := match y with
  | (dC, dI, ca, ad, fa, base) => fun _ st oc t => (∃ r M' N', oc = .returned (r.map (bt_tr ad fa)) ∧ Rt r M' N' ∧ va_P (dC, dI) bt_cl (bt_ws ca ad M' N') t.heap) ∧ va_F (fun q => base ≤ q) st t
def bt_yo (y : bt_Y) : Prop := match y with
  | (_, _, _, ad, _, base) => (∀ i j, i < 79 → j < 79 → ad i = ad j → i = j) ∧ ∀ i, i < 79 → base ≤ ad i
def bt_yA (y : bt_Y) : Nat → Prop := match y with
  | (_, _, _, _, _, base) => fun q => base ≤ q
/-- a method meets its spec on the machine -/
def bt_MS (l : Launch) (y : bt_Y) (mn : MethodName) (cc : ByteArray) (nL : Nat) (ret : Option FieldType) (rm : Room) (sp : bt_Sp) : Prop := ∀ as M N Rt, sp as M N Rt → Met l mn (.code mn cc nL ret :: bt_big) rm (bt_Pc y as M N) (bt_Qc y Rt) 0 0 (bt_yA y)
/-- a call of a method -/
def bt_CS (l : Launch) (y : bt_Y) (own : String) (cc : ByteArray) (nL : Nat) (rm : Room) (q : Nat × Nat × Nat × bt_Sp) : Prop := ∀ (g : bt_G) (SL : Nat) (xs : Nat → Int32), bt_Cx g y own cc nL SL xs → g.2.1 = l → g.2.2.2.1 = rm → bt_okC g y cc nL [q]
theorem bt_CS_all {l : Launch} {y : bt_Y} {own : String} {cc : ByteArray} {nL : Nat} {rm : Room} {CT : bt_C} {g : bt_G} {SL : Nat} {xs : Nat → Int32} (h : ∀ q ∈ CT, bt_CS l y own cc nL rm q) (cx : bt_Cx g y own cc nL SL xs) (h1 : g.2.1 = l) (h2 : g.2.2.2.1 = rm) : bt_okC g y cc nL CT := fun q hq => h q hq g SL xs cx h1 h2 q List.mem_cons_self
theorem bt_Kn_warm {y : bt_Y} {s U : State} {H : Heap} (hW : s.WarmedH U.vm) (h : bt_Kn y s H) : bt_Kn y U H := by
  obtain ⟨dC, dI, ca, ad, fa, base⟩ := y
  obtain ⟨h1, h2, h3, ⟨adV, h4⟩, h5⟩ := h
  refine ⟨va_K.moved hW.alike h1, fun w hw => ?_, fun j q hq => (h3 j q hq).warm hW, ⟨adV, h4.moved hW.alike⟩, h5.moved hW.alike⟩
  have hw2 := h2 w hw
  simp only [bt_nst, List.mem_cons, List.not_mem_nil, or_false] at hw
  rcases hw with rfl | rfl | rfl | rfl | rfl | rfl <;> exact va_Nw.warmM hW hw2
theorem bt_Kn_kept {y : bt_Y} {s : State} {H H1 : Heap} (h : bt_Kn y s H) (hq : ∀ a : Nat, a < H.size → ¬ bt_yA y a → H1[a]? = H[a]?) : bt_Kn y s H1 := by
  obtain ⟨dC, dI, ca, ad, fa, base⟩ := y
  obtain ⟨h1, h2, h3, ⟨adV, h4⟩, h5⟩ := h
  exact ⟨h1, h2, h3, ⟨adV, h4.kept hq⟩, h5.kept hq⟩
theorem bt_Kn_same {y : bt_Y} {s U : State} {H : Heap} (hv : U.vm = s.vm) (h : bt_Kn y s H) : bt_Kn y U H := by
  obtain ⟨dC, dI, ca, ad, fa, base⟩ := y
  obtain ⟨h1, h2, h3, ⟨adV, h4⟩, h5⟩ := h
  have ha : s.vm.Alike U.vm := by rw [hv]; exact Vm.Alike.refl _
  refine ⟨va_K.moved ha h1, fun w hw => ?_, fun j q hq => (h3 j q hq).same hv, ⟨adV, h4.moved ha⟩, h5.moved ha⟩
  have hw2 := h2 w hw
  simp only [bt_nst, List.mem_cons, List.not_mem_nil, or_false] at hw
  rcases hw with rfl | rfl | rfl | rfl | rfl | rfl <;> exact va_Nw.same rfl hv.symm hw2
theorem bt_blind (y : bt_Y) (as : List Value) (M : bt_M) (N : bt_N) : FrameBlind (bt_Pc y as M N) := by
  obtain ⟨dC, dI, ca, ad, fa, base⟩ := y
  intro a U g mk h
  obtain ⟨h1, h2, h3, h4⟩ := h
  exact ⟨h1, bt_Kn_same (s := U) rfl h2, h3, h4⟩
end
section
/-! FROM A METHOD'S STATEMENT TO ITS CONTRACT, AND TO ITS CALLS -/
theorem bt_en_len : ∀ (as : List Value) (n : Nat), bt_sum as ≤ n → (bt_en n as).length = n
  | [], n, _ => by simp [bt_en]
  | v :: t, n, h => by
    cases hv : bt_c1 v with
    | true =>
      have h1 : bt_sum t + 1 ≤ n := by simpa [bt_sum, hv] using h
      have := bt_en_len t (n - 1) (by omega)
      simp only [bt_en, hv, List.length_cons, this]
      omega
    | false =>
      have h1 : bt_sum t + 2 ≤ n := by simpa [bt_sum, hv] using h
      have := bt_en_len t (n - 2) (by omega)
      simp only [bt_en, hv, List.length_cons, this]
      omega
theorem bt_lp_rep (f : Value → Value) : ∀ (n o : Nat), bt_lp f o (List.replicate n none) = []
  | 0, _ => rfl
  | n + 1, o => by
    rw [List.replicate_succ]
    exact bt_lp_rep f n (o + 1)
theorem bt_en_lp (f : Value → Value) (hf : ∀ v, (f v).category = v.category) : ∀ (as : List Value) (n o : Nat), ∀ q ∈ bt_lp f o (bt_en n as), q ∈ lv_args o (as.map f)
  | [], n, o, q, h => by
    simp only [bt_en, bt_lp_rep] at h
    cases h
  | v :: t, n, o, q, h => by
    cases hv : bt_c1 v with
    | true =>
      simp only [bt_en, hv] at h
      have hc : ¬ (f v).category = 2 := by rw [hf, bt_c1_cat hv]; omega
      simp only [List.map_cons, lv_args, hc, if_false]
      rcases List.mem_cons.mp (show q ∈ (o, f v) :: bt_lp f (o + 1) (bt_en (n - 1) t) from h) with rfl | h
      · exact List.mem_cons_self
      · exact List.mem_cons_of_mem _ (bt_en_lp f hf t _ _ q h)
    | false =>
      simp only [bt_en, hv] at h
      have hc : (f v).category = 2 := by rw [hf, bt_c1_cat2 hv]
      simp only [List.map_cons, lv_args, hc, if_true]
      rcases List.mem_cons.mp (show q ∈ (o, f v) :: bt_lp f (o + 1 + 1) (bt_en (n - 2) t) from h) with rfl | h
      · exact List.mem_cons_self
      · exact List.mem_cons_of_mem _ (bt_en_lp f hf t _ _ q h)
theorem bt_sl_len (f : Value → Value) (hf : ∀ v, (f v).category = v.category) : ∀ (as : List Value), (lg_sl (as.map f)).length = bt_sum as
  | [] => rfl
  | v :: t => by
    have ih := bt_sl_len f hf t
    cases hv : bt_c1 v with
    | true =>
      have hc : ¬ (f v).category = 2 := by rw [hf, bt_c1_cat hv]; omega
      simp only [lg_sl, List.map_cons, List.flatMap_cons, hc, if_false, List.length_append, bt_sum, hv] at ih ⊢
      rw [ih]; simp; omega
    | false =>
      have hc : (f v).category = 2 := by rw [hf, bt_c1_cat2 hv]
      simp only [lg_sl, List.map_cons, List.flatMap_cons, hc, if_true, List.length_append, bt_sum, hv] at ih ⊢
      rw [ih]; simp; omega
theorem bt_entry (ad fa : Nat → Nat) (as : List Value) (nL : Nat) (h : bt_sum as ≤ nL) : bt_lr ad fa ((lg_sl (as.map (bt_tr ad fa)) ++ List.replicate (nL - (lg_sl (as.map (bt_tr ad fa))).length) Slot.unset).toArray) nL (bt_en nL as) := by
  have h1 := lv_entry (as.map (bt_tr ad fa)) (n := nL) (by rw [bt_sl_len _ (bt_tr_cat ad fa)]; exact h)
  exact ⟨bt_en_len as nL h, h1.1, h1.2.1, fun q hq => h1.2.2 q (bt_en_lp _ (bt_tr_cat ad fa) as nL 0 q hq)⟩
def bt_rets : Nat → Option FieldType
  | 0 => none
  | 1 => some .int
  | 2 => some .boolean
  | _ => some .long
set_option maxHeartbeats 1000000 in
theorem bt_met {l : Launch} {y : bt_Y} {own : String} {mn : MethodName} {cc : ByteArray} {T : List bt_E} {FL : bt_F} {CT : bt_C} {rt nL : Nat} {ret : Option FieldType} {rm : Room} {sp : bt_Sp} (hy : bt_yo y) (hMT : bt_MT T FL CT rt nL sp) (hT : bt_okT own cc T = true) (hF : bt_okF own FL) (hC : ∀ q ∈ CT, bt_CS l y own cc nL rm q) (hmn : mn.cls = own) (hpl : plainName mn.cls = true) (hrt : rt < 4 ∧ ret = bt_rets rt) (hnL : ∀ as M N Rt, sp as M N Rt → bt_sum as ≤ nL) : bt_MS l y mn cc nL ret rm sp := by
  intro as M N Rt hsp
  refine Met.ofW (cc := cc) (maxL := nL) (ret := ret) hpl rfl ?_
  intro p e s m args below meth c s₁ B hml hv
  obtain ⟨dC, dI, ca, ad, fa, base⟩ := y
  obtain ⟨rfl, hKn, hbs, hP⟩ := hv
  have hx := B.exec
  have hb := B.bytes
  have hr := B.returns
  have hlocks := B.notSynchronized
  have hts := atoms_spec (ws := Cond.code mn cc nL ret :: bt_big) B.pre
  have cx : bt_Cx (p, l, e, (headSpec (Cond.code mn cc nL ret :: bt_big) rm).room, s, m, (as.map (bt_tr ad fa)).toArray, below, meth, c, 0, 0, MQ below (bt_Qc (dC, dI, ca, ad, fa, base) Rt) (as.map (bt_tr ad fa)).toArray s 0 0 (bt_yA (dC, dI, ca, ad, fa, base))) (dC, dI, ca, ad, fa, base) own cc nL 0 (fun _ => 0) :=
    ⟨hx, hb, hml, by rw [← hmn]; exact findClass_of_methodNamed B.named, fun w hw => hts w (List.mem_cons_of_mem _ hw), hKn, hy.1, hy.2, hbs, fun S h => by omega, Nat.zero_le _, Nat.zero_le _⟩
  have hRR : bt_okR (p, l, e, (headSpec (Cond.code mn cc nL ret :: bt_big) rm).room, s, m, (as.map (bt_tr ad fa)).toArray, below, meth, c, 0, 0, MQ below (bt_Qc (dC, dI, ca, ad, fa, base) Rt) (as.map (bt_tr ad fa)).toArray s 0 0 (bt_yA (dC, dI, ca, ad, fa, base))) (dC, dI, ca, ad, fa, base) cc nL rt Rt := by
    refine ⟨fun h0 pc L M N hd h => ?_, fun h0 pc L M N x hd h => ?_, fun h0 pc L M N x hd hx2 h => ?_, fun h0 pc L M N x hd h => ?_⟩
    · intro H locs ls hP hS hl
      exact W.vret hx hb (by rw [hr, hrt.2, h0]; rfl) (fun t ht hw => ⟨⟨none, M, N, rfl, h, by rw [ht]; exact hP⟩, hS.F ht⟩) (fun q hq => hS.2.2 q hq) hd hlocks
    · intro H locs ls hP hS hl
      exact W.iret hx hb (by rw [hr, hrt.2, h0]; rfl) (fun t ht hw => ⟨⟨some (.int x), M, N, rfl, h, by rw [ht]; exact hP⟩, hS.F ht⟩) (fun q hq => hS.2.2 q hq) hd hlocks
    · intro H locs ls hP hS hl
      exact W.zret (ty := .boolean) hx hb (by rw [hr, hrt.2, h0]; rfl) (by rcases hx2 with rfl | rfl <;> rfl) (fun t ht hw => ⟨⟨some (.int x), M, N, rfl, h, by rw [ht]; exact hP⟩, hS.F ht⟩) (fun q hq => hS.2.2 q hq) hd hlocks
    · intro H locs ls hP hS hl
      exact W.lret hx hb (by rw [hr, hrt.2, h0]; rfl) (fun t ht hw => ⟨⟨some (.long x), M, N, rfl, h, by rw [ht]; exact hP⟩, hS.F ht⟩) (fun q hq => hS.2.2 q hq) hd hlocks
  obtain ⟨hT1, hT2⟩ : T.all (bt_okE own cc) = true ∧ bt_adj T = true := Bool.and_eq_true_iff.mp hT
  have hCC := bt_CS_all hC cx rfl rfl
  have key := hMT as M N Rt hsp _ (fun en is hs L st M N ks kj h h1 h2 => bt_step cx hF hCC hRR (List.all_eq_true.mp hT1 en (hs.subset List.mem_cons_self)) h h1 h2)
  rw [lg_entry_eq]
  exact key s.heap [] _ hP va_S.rf (bt_entry ad fa as nL (hnL as M N Rt hsp))
/-- behind a call -/
theorem bt_back {p : Program} {l : Launch} {e : Env} {R : Room} {s : State} {m : MethodId} {args : Array Value} {below : List Frame} {meth : Method} {c : Code} {cells slots : Nat} {Q : State → Prop} {dC : Nat → ClassId} {dI : Nat → Nat → Nat} {ca : Nat → ClassId} {ad fa : Nat → Nat} {base nL pc : Nat} {L : bt_L} {r : List Value} {k : List Value → bt_M → bt_N → Prop} {H : Heap} {locs : List Loc} {ls : Array Slot} {st0 : List Value} {a : Array Value}
    (hk : ∀ st' M' N', k st' M' N' → bt_V (p, l, e, R, s, m, args, below, meth, c, cells, slots, Q) (dC, dI, ca, ad, fa, base) nL (pc + 3) L st' M' N') (hS : va_S (fun q => base ≤ q) s.heap H locs) (hl : bt_lr ad fa ls nL L)
    (run : va_Run p l e R s m args below meth c H locs cells slots 0 0 (F0 m pc ls st0) (r.map (bt_tr ad fa)) (bt_Qc (dC, dI, ca, ad, fa, base) (fun v M' N' => bt_res v r (fun st' => k st' M' N')) a) (fun q => base ≤ q)) : W p l e R s m args below meth c H locs cells slots Q (F0 m pc ls st0) := by
  intro T hT X
  obtain ⟨v, st₀, t, T', L', h0, X', hL, e1, e2, ⟨⟨v', M', N', hv, hk', hP'⟩, hz, hkk⟩, st⟩ := run T hT X
  cases hv
  rw [h0] at hz hkk
  have hS' : va_S (fun q => base ≤ q) s.heap T'.heap (locs ++ L') := ⟨Nat.le_trans hS.1 (by rw [e1]; exact hz), fun q h1 h2 => by rw [e1, hkk q (Nat.lt_of_lt_of_le h1 hS.1) h2]; exact hS.2.1 q h1 h2, fun q hq => by
      rcases List.mem_append.mp hq with h | h
      · exact hS.2.2 q h
      · exact hL q h⟩
  have hP2 : va_P (dC, dI) bt_cl (bt_ws ca ad M' N') T'.heap := by rw [e1]; exact hP'
  cases v' with
  | none =>
    obtain ⟨t2, a1, b1⟩ := hk r M' N' hk' T'.heap (locs ++ L') ls hP2 hS' hl T' rfl X'
    exact ⟨t2, st t2 a1, b1⟩
  | some v =>
    obtain ⟨t2, a1, b1⟩ := hk (v :: r) M' N' hk' T'.heap (locs ++ L') ls hP2 hS' hl T' rfl X'
    exact ⟨t2, st t2 a1, b1⟩
theorem bt_do_s {na : Nat} {sp : bt_Sp} {st : List Value} {M : bt_M} {N : bt_N} {k : List Value → bt_M → bt_N → Prop} (h : bt_do na sp st M N k) : ∃ as r, as.length = na ∧ st = as.reverse ++ r ∧ bt_sum r ≤ 8 ∧ sp as M N (fun v M' N' => bt_res v r (fun st' => k st' M' N')) := by
  obtain ⟨as, r, h1, h2, h3⟩ := bt_pop_s h
  rw [List.append_nil] at h3
  split at h3
  · next hb => exact ⟨as, r, h1, h2, Nat.le_of_ble_eq_true hb, h3⟩
  · exact False.elim h3
theorem bt_good {w : Cond} (h : w ∈ bt_big) : GoodIn bt_big (w :: bt_big) := fun v hv => by
  rcases List.mem_cons.mp hv with rfl | hv
  · exact ⟨h, good_of_word (bt_bigG _ h)⟩
  · exact ⟨hv, good_of_word (bt_bigG _ hv)⟩
theorem bt_prec {dC : Nat → ClassId} {dI : Nat → Nat → Nat} {ca : Nat → ClassId} {ad fa : Nat → Nat} {base : Nat} {s U : State} {H : Heap} {locs : List Loc} {as : List Value} {M : bt_M} {N : bt_N} (hKn : bt_Kn (dC, dI, ca, ad, fa, base) s s.heap) (hbs : base ≤ s.heap.size) (hP : va_P (dC, dI) bt_cl (bt_ws ca ad M N) H) (hS : va_S (fun q => base ≤ q) s.heap H locs) (hU : U.heap = H) (hW : s.WarmedH U.vm) : bt_Pc (dC, dI, ca, ad, fa, base) as M N (as.map (bt_tr ad fa)).toArray U := by
  refine ⟨rfl, bt_Kn_warm hW (bt_Kn_kept hKn ?_), ?_, ?_⟩
  · intro a h1 h2
    rw [hU]
    exact hS.2.1 a h1 h2
  · rw [hU]
    exact Nat.le_trans hbs hS.1
  · rw [hU]
    exact hP
/-- a static call, of a method that is linked in the ordinary way -/
theorem bt_CSS {l : Launch} {y : bt_Y} {own : String} {cc : ByteArray} {nL : Nat} {rm : Room} {idx na : Nat} {sp : bt_Sp} {mn : MethodName} {cc' : ByteArray} {nL' : Nat} {ret' : Option FieldType} {rm' : Room} (hM : bt_MS l y mn cc' nL' ret' rm' sp) (h1 : Cond.methodLink own idx mn ∈ bt_big) (h2 : Cond.static mn ∈ bt_big) (h3 : Cond.initialized mn.cls ∈ bt_big) (h4 : Cond.code mn cc' nL' ret' ∈ bt_big)
    (hd : mn.cls ≠ "java/lang/invoke/MethodHandle" ∧ mn.cls ≠ "java/lang/invoke/VarHandle" ∧ (parseMethodDescriptor mn.desc).map (fun d => d.parameters.length) = some na) (hR : rm'.frames + 1 ≤ rm.frames ∧ 8 + (nL' + 11) + rm'.locals ≤ rm.locals) (hc : rm'.cells = 0 ∧ rm'.slots = 0) : bt_CS l y own cc nL rm (idx, 0, na, sp) := by
  intro g SL xs cx hl1 hrm q hq
  rw [List.mem_singleton.mp hq]
  intro pc L st M N k hdec hdo hk
  obtain ⟨p, l0, e, R, s, m, args, below, meth, c, cells, slots, Q⟩ := g
  obtain ⟨dC, dI, ca, ad, fa, base⟩ := y
  dsimp only at hl1 hrm
  subst hl1; subst hrm
  obtain ⟨hx, hb, hml, hown, hts, hKn, hai, hab, hbs, hsc, hcl, hsl⟩ := id cx
  obtain ⟨as, r, hlen, rfl, hsum, hsp⟩ := bt_do_s hdo
  rcases hdec with ⟨-, hd0⟩ | ⟨h, -⟩
  · intro H locs ls hP hS hl
    refine bt_back hk hS hl (va_runS (As := as.map (bt_tr ad fa)) ⟨hx, hb, hml, hown, hts⟩ (hM as M N _ hsp) ⟨callB_of na hts (bt_good h4) rfl hc.1 hc.2 (hts _ h3) (hts _ h1) hd hR, hts _ h2⟩ ⟨bt_blind _ _ _ _, fun U hU hW => bt_prec hKn hbs hP hS hU hW⟩ rfl (by simpa using hlen) hl.2.1 (by simp) (lv_room (by rw [bt_sum_s]; exact hsum)) hd0 ⟨hcl, hsl⟩)
  · cases h
/-- a static call of a nest mate's private method -/
theorem bt_CSN {l : Launch} {y : bt_Y} {own host : String} {cc : ByteArray} {nL : Nat} {rm : Room} {idx na : Nat} {sp : bt_Sp} {mn : MethodName} {cc' : ByteArray} {nL' : Nat} {ret' : Option FieldType} {rm' : Room} (hM : bt_MS l y mn cc' nL' ret' rm' sp) (h1 : Cond.methodLinkNest own idx mn host ∈ bt_nst) (h2 : Cond.static mn ∈ bt_big) (h3 : Cond.initialized mn.cls ∈ bt_big) (h4 : Cond.code mn cc' nL' ret' ∈ bt_big)
    (hd : mn.cls ≠ "java/lang/invoke/MethodHandle" ∧ mn.cls ≠ "java/lang/invoke/VarHandle" ∧ (parseMethodDescriptor mn.desc).map (fun d => d.parameters.length) = some na) (hR : rm'.frames + 1 ≤ rm.frames ∧ 8 + (nL' + 11) + rm'.locals ≤ rm.locals) (hc : rm'.cells = 0 ∧ rm'.slots = 0) : bt_CS l y own cc nL rm (idx, 0, na, sp) := by
  intro g SL xs cx hl1 hrm q hq
  rw [List.mem_singleton.mp hq]
  intro pc L st M N k hdec hdo hk
  obtain ⟨p, l0, e, R, s, m, args, below, meth, c, cells, slots, Q⟩ := g
  obtain ⟨dC, dI, ca, ad, fa, base⟩ := y
  dsimp only at hl1 hrm
  subst hl1; subst hrm
  obtain ⟨hx, hb, hml, hown, hts, hKn, hai, hab, hbs, hsc, hcl, hsl⟩ := id cx
  obtain ⟨as, r, hlen, rfl, hsum, hsp⟩ := bt_do_s hdo
  rcases hdec with ⟨-, hd0⟩ | ⟨h, -⟩
  · intro H locs ls hP hS hl
    refine bt_back hk hS hl (va_runSN (As := as.map (bt_tr ad fa)) ⟨hx, hb, hml, hown, hts⟩ (hM as M N _ hsp) ⟨va_cnB na hts (bt_good h4) rfl hc.1 hc.2 (hKn.2.1 _ h1) (hts _ h3) hd hR, hts _ h2, trivial⟩ ⟨bt_blind _ _ _ _, fun U hU hW => bt_prec hKn hbs hP hS hU hW⟩ rfl (by simpa using hlen) hl.2.1 (by simp) (lv_room (by rw [bt_sum_s]; exact hsum)) hd0 ⟨hcl, hsl⟩)
  · cases h
/-- a call of a method of an object of ours -/
theorem bt_CSV {l : Launch} {y : bt_Y} {own : String} {cc : ByteArray} {nL : Nat} {rm : Room} {idx na ci : Nat} {rc : vw_C} {sp : bt_Sp} {mn : MethodName} {cc' : ByteArray} {nL' : Nat} {ret' : Option FieldType} {rm' : Room} (hM : bt_MS l y mn cc' nL' ret' rm' sp) (hci : bt_cl[ci]? = some rc) (hrc : mn.cls = rc.1) (hsr : ∀ as M N Rt, sp as M N Rt → ∃ c t n, as = .ref c :: t ∧ bt_sh c = (0, ci, n)) (h1 : Cond.methodLink own idx mn ∈ bt_big) (h2 : Cond.instanceMethod mn ∈ bt_big) (h5 : Cond.selects mn.cls mn mn ∈ bt_big) (h3 : Cond.initialized mn.cls ∈ bt_big) (h4 : Cond.code mn cc' nL' ret' ∈ bt_big)
    (hd : mn.cls ≠ "java/lang/invoke/MethodHandle" ∧ mn.cls ≠ "java/lang/invoke/VarHandle" ∧ (parseMethodDescriptor mn.desc).map (fun d => d.parameters.length) = some na) (hR : rm'.frames + 1 ≤ rm.frames ∧ 8 + (nL' + 11) + rm'.locals ≤ rm.locals) (hc : rm'.cells = 0 ∧ rm'.slots = 0) : bt_CS l y own cc nL rm (idx, 1, na + 1, sp) := by
  intro g SL xs cx hl1 hrm q hq
  rw [List.mem_singleton.mp hq]
  intro pc L st M N k hdec hdo hk
  obtain ⟨p, l0, e, R, s, m, args, below, meth, c, cells, slots, Q⟩ := g
  obtain ⟨dC, dI, ca, ad, fa, base⟩ := y
  dsimp only at hl1 hrm
  subst hl1; subst hrm
  obtain ⟨hx, hb, hml, hown, hts, hKn, hai, hab, hbs, hsc, hcl, hsl⟩ := id cx
  obtain ⟨as, r, hlen, rfl, hsum, hsp⟩ := bt_do_s hdo
  obtain ⟨a, t, n, rfl, hsh⟩ := hsr as M N _ hsp
  rcases hdec with ⟨h, -⟩ | ⟨-, hd0⟩
  · cases h
  · intro H locs ls hP hS hl
    have hw : (bt_ws ca ad M N)[a]? = some (ad a, .inr (ci, (List.range (bt_nf ci)).map (bt_fv ad M N a ci))) := by
      rw [bt_ws_get (bt_sh_lt hsh (by omega)), bt_ct_o hsh]
    refine bt_back hk hS hl (va_runV (b := ad a) (As := t.map (bt_tr ad fa)) (C := mn.cls) ⟨hx, hb, hml, hown, hts⟩ (hM (.ref a :: t) M N _ hsp) ⟨callB_of na hts (bt_good h4) rfl hc.1 hc.2 (hts _ h3) (hts _ h1) hd hR, hts _ h2, hts _ h5⟩ ⟨bt_blind _ _ _ _, ?_, fun U hU hW => bt_prec (as := .ref a :: t) hKn hbs hP hS hU hW⟩ rfl (by simpa using hlen) hl.2.1 (by simp [bt_tr]) (lv_room (by rw [bt_sum_s]; exact hsum)) hd0 ⟨hcl, hsl⟩)
    rw [hrc]
    exact va_recv hKn.1 hP hci hw
end
section
/-- loops, out of which a place may be reached where P is known already -/
theorem bt_loopP {T : List bt_E} {FL : bt_F} {CT : bt_C} {rt SL : Nat} {xs : Nat → Int32} {Rt : bt_R} {P : bt_P} (hT : bt_adj T = true) (hP : bt_cls T FL CT rt SL xs Rt P) (n : Nat) (S : List Nat) (I : Nat → bt_P) (h : ∀ u pc L st M N, I u pc L st M N → bt_wp T FL CT rt SL xs Rt S (fun pc' L' st' M' N' => (∃ u', u' < u ∧ I u' pc' L' st' M' N') ∨ P pc' L' st' M' N') n (bt_suf T pc) L st M N) : ∀ u pc L st M N, I u pc L st M N → P pc L st M N := by
  intro u
  induction u using Nat.strongRecOn with
  | _ u ih =>
    intro pc L st M N hI
    refine bt_go hT hP n S _ (fun pc' L' st' M' N' hk => ?_) (h u pc L st M N hI)
    rcases hk with ⟨u', h1, h2⟩ | hk
    · exact ih u' h1 pc' L' st' M' N' h2
    · exact hk
/-! System.arraycopy -/
def sArrcopyI : bt_Sp := fun as M N K => match as with
  | [.ref a, .int p, .ref b, .int q, .int n] => ∃ na nb k, p = 0 ∧ q = 0 ∧ bt_sh a = (1, 0, na) ∧ bt_sh b = (1, 0, nb) ∧ n = nI k ∧ k ≤ na ∧ k ≤ nb ∧ ∀ M', M' = va_up M b (va_cpy (M a) (M b) 0 0 k) → K none M' N
  | _ => False
def sArrcopyL : bt_Sp := fun as M N K => match as with
  | [.ref a, .int p, .ref b, .int q, .int n] => ∃ na nb k, p = 0 ∧ q = 0 ∧ bt_sh a = (1, 1, na) ∧ bt_sh b = (1, 1, nb) ∧ n = nI k ∧ k ≤ na ∧ k ≤ nb ∧ ∀ N', N' = va_up N b (va_cpy (N a) (N b) 0 0 k) → K none M N'
  | _ => False
theorem bt_arrcopyI_s {as : List Value} {M : bt_M} {N : bt_N} {K : bt_R} (h : sArrcopyI as M N K) : ∃ a b na nb k, as = [.ref a, .int 0, .ref b, .int 0, .int (nI k)] ∧ bt_sh a = (1, 0, na) ∧ bt_sh b = (1, 0, nb) ∧ k ≤ na ∧ k ≤ nb ∧ K none (va_up M b (va_cpy (M a) (M b) 0 0 k)) N := by
  unfold sArrcopyI at h
  split at h
  · obtain ⟨na, nb, k, rfl, rfl, h1, h2, rfl, h3, h4, h5⟩ := h
    exact ⟨_, _, na, nb, k, rfl, h1, h2, h3, h4, h5 _ rfl⟩
  · exact False.elim h
theorem bt_arrcopyL_s {as : List Value} {M : bt_M} {N : bt_N} {K : bt_R} (h : sArrcopyL as M N K) : ∃ a b na nb k, as = [.ref a, .int 0, .ref b, .int 0, .int (nI k)] ∧ bt_sh a = (1, 1, na) ∧ bt_sh b = (1, 1, nb) ∧ k ≤ na ∧ k ≤ nb ∧ K none M (va_up N b (va_cpy (N a) (N b) 0 0 k)) := by
  unfold sArrcopyL at h
  split at h
  · obtain ⟨na, nb, k, rfl, rfl, h1, h2, rfl, h3, h4, h5⟩ := h
    exact ⟨_, _, na, nb, k, rfl, h1, h2, h3, h4, h5 _ rfl⟩
  · exact False.elim h
theorem bt_CSaI {l : Launch} {y : bt_Y} {own : String} {cc : ByteArray} {nL : Nat} {rm : Room} {idx : Nat} (h1 : Cond.methodLink own idx arraycopyName ∈ bt_big) (h2 : Cond.native arraycopyName ∈ bt_big) (h3 : Cond.static arraycopyName ∈ bt_big) (h4 : Cond.initialized "java/lang/System" ∈ bt_big) (hR : 1 ≤ rm.frames ∧ 8 + (nativeFrameWords "java/lang/System" "arraycopy" 5 + 11) ≤ rm.locals) : bt_CS l y own cc nL rm (idx, 0, 5, sArrcopyI) := by
  intro g SL xs cx hl1 hrm q hq
  rw [List.mem_singleton.mp hq]
  intro pc L st M N k hdec hdo hk
  obtain ⟨p, l0, e, R, s, m, args, below, meth, c, cells, slots, Q⟩ := g
  obtain ⟨dC, dI, ca, ad, fa, base⟩ := y
  dsimp only at hl1 hrm
  subst hl1; subst hrm
  obtain ⟨hx, hb, hml, hown, hts, hKn, hai, hab, hbs, hsc, hcl, hsl⟩ := id cx
  obtain ⟨as, r, hlen, rfl, hsum, hsp⟩ := bt_do_s hdo
  dsimp only at hsp hk
  obtain ⟨a, b, na, nb, n, rfl, s1, s2, n1, n2, hK⟩ := bt_arrcopyI_s hsp
  rcases hdec with ⟨-, hd0⟩ | ⟨h, -⟩
  · intro H locs ls hP hS hl
    have hn1 := bt_sh_n s1
    have ha : (bt_ws ca ad M N)[a]? = some (ad a, .inl (ca 0, na, .inl (M a))) := by
      rw [bt_ws_get (bt_sh_lt s1 (by omega)), bt_ct_a s1]; rfl
    have hbb : (bt_ws ca ad M N)[b]? = some (ad b, .inl (ca 0, nb, .inl (M b))) := by
      rw [bt_ws_get (bt_sh_lt s2 (by omega)), bt_ct_a s2]; rfl
    have hc : (nI n).toNatClampNeg = n := nI_clamp (by omega)
    refine va_copyi (sp := 0) (dp := 0) (n := nI n) (rest := r.map (bt_tr ad fa)) hx hb (hml.trans hl.2.1.symm) hown (hts _ h1) (hts _ h2) (hts _ h3) (hts _ h4) hKn.1 hP (bt_wsD hai hab M N) hS a b 0 0 ha hbb rfl rfl rfl (by decide) (by decide) (nI_pos (by omega)) (by rw [hc]; simpa using n1) (by rw [hc]; simpa using n2) (fun _ _ => rfl) hR.1 (by rw [bt_sum_s]; omega) hd0 (fun H1 locs1 hP1 hD1 hS1 => ?_)
    rw [hc, bt_ws_aI s2 (Or.inl rfl)] at hP1
    exact hk _ _ _ hK H1 locs1 ls hP1 hS1 hl
  · cases h
theorem bt_CSaL {l : Launch} {y : bt_Y} {own : String} {cc : ByteArray} {nL : Nat} {rm : Room} {idx : Nat} (h1 : Cond.methodLink own idx arraycopyName ∈ bt_big) (h2 : Cond.native arraycopyName ∈ bt_big) (h3 : Cond.static arraycopyName ∈ bt_big) (h4 : Cond.initialized "java/lang/System" ∈ bt_big) (hR : 1 ≤ rm.frames ∧ 8 + (nativeFrameWords "java/lang/System" "arraycopy" 5 + 11) ≤ rm.locals) : bt_CS l y own cc nL rm (idx, 0, 5, sArrcopyL) := by
  intro g SL xs cx hl1 hrm q hq
  rw [List.mem_singleton.mp hq]
  intro pc L st M N k hdec hdo hk
  obtain ⟨p, l0, e, R, s, m, args, below, meth, c, cells, slots, Q⟩ := g
  obtain ⟨dC, dI, ca, ad, fa, base⟩ := y
  dsimp only at hl1 hrm
  subst hl1; subst hrm
  obtain ⟨hx, hb, hml, hown, hts, hKn, hai, hab, hbs, hsc, hcl, hsl⟩ := id cx
  obtain ⟨as, r, hlen, rfl, hsum, hsp⟩ := bt_do_s hdo
  dsimp only at hsp hk
  obtain ⟨a, b, na, nb, n, rfl, s1, s2, n1, n2, hK⟩ := bt_arrcopyL_s hsp
  rcases hdec with ⟨-, hd0⟩ | ⟨h, -⟩
  · intro H locs ls hP hS hl
    have hn1 := bt_sh_n s1
    have ha : (bt_ws ca ad M N)[a]? = some (ad a, .inl (ca 1, na, .inr (.inl (N a)))) := by
      rw [bt_ws_get (bt_sh_lt s1 (by omega)), bt_ct_a s1]; rfl
    have hbb : (bt_ws ca ad M N)[b]? = some (ad b, .inl (ca 1, nb, .inr (.inl (N b)))) := by
      rw [bt_ws_get (bt_sh_lt s2 (by omega)), bt_ct_a s2]; rfl
    have hc : (nI n).toNatClampNeg = n := nI_clamp (by omega)
    refine va_copyl (sp := 0) (dp := 0) (n := nI n) (rest := r.map (bt_tr ad fa)) hx hb (hml.trans hl.2.1.symm) hown (hts _ h1) (hts _ h2) (hts _ h3) (hts _ h4) hKn.1 hP (bt_wsD hai hab M N) hS a b 1 1 ha hbb rfl rfl rfl (by decide) (by decide) (nI_pos (by omega)) (by rw [hc]; simpa using n1) (by rw [hc]; simpa using n2) (fun _ _ => rfl) hR.1 (by rw [bt_sum_s]; omega) hd0 (fun H1 locs1 hP1 hD1 hS1 => ?_)
    rw [hc, bt_ws_aL s2] at hP1
    exact hk _ _ _ hK H1 locs1 ls hP1 hS1 hl
  · cases h
end
section
/-! NUMBERS -/
abbrev bt_in (x : Int32) (n : Nat) : Prop := 0 ≤ x.toInt ∧ x.toInt < n
def bt_bi (p : Prop) [Decidable p] : Int32 := if p then 1 else 0
theorem bt_bi_t {p : Prop} [Decidable p] (h : p) : bt_bi p = 1 := if_pos h
theorem bt_bi_f {p : Prop} [Decidable p] (h : ¬ p) : bt_bi p = 0 := if_neg h
theorem bt_bi_0 {p : Prop} [Decidable p] : bt_bi p = 0 ↔ ¬ p := by
  by_cases h : p <;> simp [bt_bi, h]
theorem bt_bi_01 {p : Prop} [Decidable p] : bt_bi p = 0 ∨ bt_bi p = 1 := by
  by_cases h : p <;> simp [bt_bi, h]
theorem bt_bi_c {p q : Prop} [Decidable p] [Decidable q] (h : p ↔ q) : bt_bi p = bt_bi q := by
  by_cases hp : p
  · rw [bt_bi_t hp, bt_bi_t (h.mp hp)]
  · rw [bt_bi_f hp, bt_bi_f (fun q => hp (h.mpr q))]
theorem bt_lit (n : Nat) : (OfNat.ofNat n : Int32) = nI (@OfNat.ofNat Nat n (instOfNatNat n)) := rfl
theorem bt_litl (n : Nat) : (OfNat.ofNat n : Int64) = lN (@OfNat.ofNat Nat n (instOfNatNat n)) := rfl
theorem bt_in_e {x : Int32} {n : Nat} (h : bt_in x n) : ∃ j, j < n ∧ x = nI j := by
  refine ⟨x.toInt.toNat, by omega, ?_⟩
  apply Int32.toInt_inj.mp
  have : x.toInt < 2 ^ 31 := Int32.toInt_lt x
  rw [nI_toInt (by omega)]
  omega
theorem bt_in_nI {j n : Nat} (hj : j < 2 ^ 31) : bt_in (nI j) n ↔ j < n := by
  simp only [bt_in, nI_toInt hj]
  omega
theorem bt_nI_sub1 {n : Nat} (h : n < 2 ^ 31) : (nI n - 1).toInt = (n : Int) - 1 := by
  cases n with
  | zero => decide
  | succ n =>
    rw [nI_pred, nI_toInt (by omega)]
    omega
/-- a bound told by a last place -/
theorem bt_in_last {x : Int32} {n : Nat} (h : n < 2 ^ 31) : (0 ≤ x ∧ x ≤ nI n - 1) ↔ bt_in x n := by
  simp only [Int32.le_iff_toInt_le, bt_nI_sub1 h, Int32.toInt_zero]
  omega
theorem bt_in_top {x : Int32} {n : Nat} (h : n + 1 < 2 ^ 31) : (0 ≤ x ∧ x ≤ nI n) ↔ bt_in x (n + 1) := by
  simp only [Int32.le_iff_toInt_le, nI_toInt (show n < 2 ^ 31 by omega), Int32.toInt_zero]
  omega
theorem bt_l_le {x y : Int32} : x.toInt64 ≤ y.toInt64 ↔ x ≤ y := by
  rw [Int64.le_iff_toInt_le, Int32.le_iff_toInt_le, Int32.toInt_toInt64, Int32.toInt_toInt64]
theorem bt_cmp_lt {a b : Int64} : lg_cmp a b < 0 ↔ a < b := by
  unfold lg_cmp
  by_cases h1 : b < a
  · have h2 : ¬ a < b := lg_lt_not h1
    simp [h1, h2]
  · by_cases h2 : a = b
    · subst h2
      simp
    · have h3 : a < b := by
        rw [Int64.lt_iff_toInt_lt] at h1 ⊢
        have h4 : a.toInt ≠ b.toInt := fun q => h2 (Int64.toInt_inj.mp q)
        omega
      simp [h1, h2, h3]
theorem bt_cmp_gt {a b : Int64} : 0 < lg_cmp a b ↔ b < a := by
  unfold lg_cmp
  by_cases h1 : b < a
  · simp [h1]
  · by_cases h2 : a = b
    · subst h2
      simp
    · simp [h1, h2]
theorem bt_cmp_eq {a b : Int64} : lg_cmp a b = 0 ↔ a = b := by
  unfold lg_cmp
  by_cases h1 : b < a
  · have h2 : ¬ a = b := fun q => by subst q; exact lg_lt_not h1 h1
    simp [h1, h2]
  · by_cases h2 : a = b
    · subst h2
      simp
    · simp [h1, h2]
theorem bt_cmp_le {a b : Int64} : lg_cmp a b ≤ 0 ↔ a ≤ b := by
  rw [← Int32.not_lt, bt_cmp_gt, Int64.not_lt]
theorem bt_cmp_ge {a b : Int64} : 0 ≤ lg_cmp a b ↔ b ≤ a := by
  rw [← Int32.not_lt, bt_cmp_lt, Int64.not_lt]
/-! MASKS -/
def bt_mk (f : Nat → Nat) : Nat → Nat
  | 0 => 0
  | n + 1 => bt_mk f n + f n * 2 ^ n
def bt_b1 (f : Nat → Nat) : Prop := ∀ k, f k ≤ 1
theorem bt_mk_lt {f : Nat → Nat} (h : bt_b1 f) : ∀ n, bt_mk f n < 2 ^ n
  | 0 => by simp [bt_mk]
  | n + 1 => by
    have h1 := bt_mk_lt h n
    have h2 := h n
    have h3 : f n * 2 ^ n ≤ 2 ^ n := by
      calc f n * 2 ^ n ≤ 1 * 2 ^ n := Nat.mul_le_mul_right _ h2
        _ = 2 ^ n := Nat.one_mul _
    simp only [bt_mk, Nat.pow_succ]
    omega
theorem bt_mk_c {f g : Nat → Nat} : ∀ {n : Nat}, (∀ k, k < n → f k = g k) → bt_mk f n = bt_mk g n
  | 0, _ => rfl
  | n + 1, h => by
    simp only [bt_mk]
    rw [bt_mk_c (n := n) (fun k hk => h k (by omega)), h n (by omega)]
theorem bt_mk_bit {f : Nat → Nat} (h : bt_b1 f) : ∀ (n k : Nat), bt_mk f n / 2 ^ k % 2 = if k < n then f k else 0
  | 0, k => by simp [bt_mk]
  | n + 1, k => by
    have ih := bt_mk_bit h n k
    have hl := bt_mk_lt h n
    have h1 := h n
    simp only [bt_mk]
    rcases Nat.lt_trichotomy k n with hk | hk | hk
    · have e : 2 ^ n = 2 ^ k * (2 * 2 ^ (n - k - 1)) := by
        rw [← Nat.mul_assoc, ← Nat.pow_succ, ← Nat.pow_add]
        congr 1
        omega
      have e2 : f n * 2 ^ n = (f n * 2 ^ (n - k - 1) * 2) * 2 ^ k := by
        rw [e]; simp [Nat.mul_comm, Nat.mul_left_comm]
      rw [e2, Nat.add_mul_div_right _ _ (Nat.two_pow_pos k), Nat.add_mul_mod_self_right, ih, if_pos hk, if_pos (by omega)]
    · subst hk
      rw [Nat.add_mul_div_right _ _ (Nat.two_pow_pos k), Nat.div_eq_of_lt hl, if_pos (by omega)]
      omega
    · rw [if_neg (by omega)]
      have h3 : f n * 2 ^ n ≤ 2 ^ n := by
        calc f n * 2 ^ n ≤ 1 * 2 ^ n := Nat.mul_le_mul_right _ h1
          _ = 2 ^ n := Nat.one_mul _
      have h4 : 2 ^ (n + 1) ≤ 2 ^ k := Nat.pow_le_pow_right (by omega) hk
      rw [Nat.pow_succ] at h4
      rw [Nat.div_eq_of_lt (by omega)]
theorem bt_mk_tb {f : Nat → Nat} (h : bt_b1 f) (n k : Nat) : (bt_mk f n).testBit k = (decide (k < n) && decide (f k = 1)) := by
  have h1 := bt_mk_bit h n k
  have h2 := h k
  rw [Nat.testBit_eq_decide_div_mod_eq, h1]
  by_cases hk : k < n <;> simp [hk]
theorem bt_mk_or {f g e : Nat → Nat} {n : Nat} (hf : bt_b1 f) (hg : bt_b1 g) (he : bt_b1 e) (h : ∀ k, k < n → (e k = 1 ↔ f k = 1 ∨ g k = 1)) : bt_mk f n ||| bt_mk g n = bt_mk e n := by
  apply Nat.eq_of_testBit_eq
  intro k
  rw [Nat.testBit_or, bt_mk_tb hf, bt_mk_tb hg, bt_mk_tb he]
  by_cases hk : k < n
  · have := h k hk
    by_cases h1 : f k = 1 <;> by_cases h2 : g k = 1 <;> simp_all
  · simp [hk]
theorem bt_mk_and {f g e : Nat → Nat} {n : Nat} (hf : bt_b1 f) (hg : bt_b1 g) (he : bt_b1 e) (h : ∀ k, k < n → (e k = 1 ↔ f k = 1 ∧ g k = 1)) : bt_mk f n &&& bt_mk g n = bt_mk e n := by
  apply Nat.eq_of_testBit_eq
  intro k
  rw [Nat.testBit_and, bt_mk_tb hf, bt_mk_tb hg, bt_mk_tb he]
  by_cases hk : k < n
  · have := h k hk
    by_cases h1 : f k = 1 <;> by_cases h2 : g k = 1 <;> simp_all
  · simp [hk]
theorem bt_mk_1 : ∀ n, bt_mk (fun _ => 1) n = 2 ^ n - 1
  | 0 => rfl
  | n + 1 => by
    have := Nat.two_pow_pos n
    simp only [bt_mk, bt_mk_1 n, Nat.pow_succ]
    omega
theorem bt_or {a b : Nat} (ha : a < 2 ^ 31) (hb : b < 2 ^ 31) : nI a ||| nI b = nI (a ||| b) := by
  apply Int32.toBitVec_inj.mp
  apply BitVec.eq_of_toNat_eq
  have h : a ||| b < 2 ^ 32 := Nat.or_lt_two_pow (by omega) (by omega)
  rw [pk_tn h]
  show (nI a ||| nI b).toBitVec.toNat = _
  rw [Int32.toBitVec_or, BitVec.toNat_or, pk_tn (by omega), pk_tn (by omega)]
theorem bt_and {a b : Nat} (ha : a < 2 ^ 31) (hb : b < 2 ^ 31) : nI a &&& nI b = nI (a &&& b) := by
  apply Int32.toBitVec_inj.mp
  apply BitVec.eq_of_toNat_eq
  have h : a &&& b < 2 ^ 32 := Nat.lt_of_le_of_lt Nat.and_le_left (by omega)
  rw [pk_tn h]
  show (nI a &&& nI b).toBitVec.toNat = _
  rw [Int32.toBitVec_and, BitVec.toNat_and, pk_tn (by omega), pk_tn (by omega)]
theorem bt_sh31 : ∀ k, k < 32 → ((nI k &&& 31).toBitVec.smod 32).toNat = k := by decide +kernel
theorem bt_shr {a k : Nat} (ha : a < 2 ^ 31) (hk : k < 32) : nI a >>> (nI k &&& 31) = nI (a / 2 ^ k) := pk_shrN ha _ k (bt_sh31 k hk)
theorem bt_shlN {a k : Nat} (hk : k < 32) (h : a * 2 ^ k < 2 ^ 32) : nI a <<< (nI k &&& 31) = nI (a * 2 ^ k) := pk_shlN _ k (bt_sh31 k hk) h
theorem bt_and1 {a : Nat} (ha : a < 2 ^ 31) : nI a &&& 1 = nI (a % 2) := pk_andN (by omega) 1 (by decide)
theorem bt_bitN {f : Nat → Nat} (h : bt_b1 f) {n k : Nat} (hn : n < 31) (hk : k < 32) : (nI (bt_mk f n) >>> (nI k &&& 31)) &&& 1 = nI (if k < n then f k else 0) := by
  have h1 := bt_mk_lt h n
  have h2 : 2 ^ n < 2 ^ 31 := Nat.pow_lt_pow_right (by omega) hn
  have h3 : bt_mk f n / 2 ^ k ≤ bt_mk f n := Nat.div_le_self _ _
  rw [bt_shr (by omega) hk, bt_and1 (by omega), bt_mk_bit h]
/-- all but some -/
theorem bt_notN : ∀ n, n < 9 → ∀ a, a < 2 ^ n → nI (2 ^ n - 1) &&& (nI a ^^^ (-1)) = nI (2 ^ n - 1 - a) := by decide +kernel
theorem bt_mk_not {f : Nat → Nat} (h : bt_b1 f) : ∀ n, 2 ^ n - 1 - bt_mk f n = bt_mk (fun k => 1 - f k) n
  | 0 => rfl
  | n + 1 => by
    have h1 := bt_mk_lt h n
    have ih := bt_mk_not h n
    have h2 := h n
    have h3 := Nat.two_pow_pos n
    simp only [bt_mk, Nat.pow_succ]
    rw [← ih]
    rcases (show f n = 0 ∨ f n = 1 by omega) with e | e <;> rw [e] <;> omega
theorem bt_b1_not {f : Nat → Nat} : bt_b1 (fun k => 1 - f k) := fun k => Nat.sub_le _ _
/-- how many -/
def bt_ct1 (f : Nat → Nat) : Nat → Nat
  | 0 => 0
  | n + 1 => bt_ct1 f n + f n
theorem bt_ct1_c {f g : Nat → Nat} : ∀ {n : Nat}, (∀ k, k < n → f k = g k) → bt_ct1 f n = bt_ct1 g n
  | 0, _ => rfl
  | n + 1, h => by
    simp only [bt_ct1]
    rw [bt_ct1_c (n := n) (fun k hk => h k (by omega)), h n (by omega)]
theorem bt_ct1_le {f : Nat → Nat} (h : bt_b1 f) : ∀ n, bt_ct1 f n ≤ n
  | 0 => Nat.le_refl _
  | n + 1 => by
    have := bt_ct1_le h n
    have := h n
    simp only [bt_ct1]
    omega
end
section
/-! THE CLASS: its small static methods -/
theorem bt_w0 {a b : Prop} (ha : a) (hb : b) : a ∧ b := ⟨ha, hb⟩
def sX5_within : bt_Sp := fun as M N K => match as with
  | [.int v, .int lo, .int hi] => K (some (.int (bt_bi (lo ≤ v ∧ v ≤ hi)))) M N
  | _ => False
theorem mX5_within : bt_MT bt_TX5_within bt_FX5 [] 2 3 sX5_within := by
  intro as M N Rt h P hP
  unfold sX5_within at h
  split at h
  · next v lo hi =>
    refine bt_go0 rfl hP 20 ?_
    refine ⟨fun h1 => ?_, fun h1 => ?_⟩
    · refine ⟨Or.inl rfl, ?_⟩
      rw [bt_bi_f (fun q => Int32.not_le.mpr h1 q.1)] at h
      exact h
    · refine ⟨fun h2 => ?_, fun h2 => ?_⟩
      · refine ⟨Or.inl rfl, ?_⟩
        rw [bt_bi_f (fun q => Int32.not_le.mpr h2 q.2)] at h
        exact h
      · refine ⟨Or.inr rfl, ?_⟩
        rw [bt_bi_t ⟨Int32.not_lt.mp h1, Int32.not_lt.mp h2⟩] at h
        exact h
  · exact False.elim h
def sX5_bit : bt_Sp := fun as M N K => match as with
  | [.int v, .int i] => K (some (.int ((v >>> (i &&& 31)) &&& 1))) M N
  | _ => False
theorem mX5_bit : bt_MT bt_TX5_bit bt_FX5 [] 1 2 sX5_bit := by
  intro as M N Rt h P hP
  unfold sX5_bit at h
  split at h
  · exact bt_go0 rfl hP 20 h
  · exact False.elim h
def sX5_withBit : bt_Sp := fun as M N K => match as with
  | [.int v, .int i, .int b] => K (some (.int (if b = 0 then v &&& ((1 <<< (i &&& 31)) ^^^ (-1)) else v ||| (1 <<< (i &&& 31))))) M N
  | _ => False
theorem mX5_withBit : bt_MT bt_TX5_withBit bt_FX5 [] 1 3 sX5_withBit := by
  intro as M N Rt h P hP
  unfold sX5_withBit at h
  split at h
  · next v i b =>
    refine bt_go0 rfl hP 20 ?_
    refine ⟨fun h1 => ?_, fun h1 => ?_⟩
    · rw [if_pos h1] at h
      exact h
    · rw [if_neg h1] at h
      exact h
  · exact False.elim h
def bt_CX5_isSheet : bt_C := [(57, 0, 3, sX5_within)]
def sX5_isSheet : bt_Sp := fun as M N K => match as with
  | [.int v] => K (some (.int (bt_bi (bt_in v 4)))) M N
  | _ => False
theorem mX5_isSheet : bt_MT bt_TX5_isSheet bt_FX5 bt_CX5_isSheet 2 1 sX5_isSheet := by
  intro as M N Rt h P hP
  unfold sX5_isSheet at h
  split at h
  · next v =>
    refine bt_go0 rfl hP 20 ?_
    refine ⟨bt_bi_01, ?_⟩
    rw [← bt_bi_c (bt_in_top (x := v) (n := 3) (by decide))] at h
    exact h
  · exact False.elim h
def bt_CX5_isLane : bt_C := [(57, 0, 3, sX5_within)]
def sX5_isLane : bt_Sp := fun as M N K => match as with
  | [.int v] => K (some (.int (bt_bi (bt_in v 3)))) M N
  | _ => False
theorem mX5_isLane : bt_MT bt_TX5_isLane bt_FX5 bt_CX5_isLane 2 1 sX5_isLane := by
  intro as M N Rt h P hP
  unfold sX5_isLane at h
  split at h
  · next v =>
    refine bt_go0 rfl hP 20 ?_
    refine ⟨bt_bi_01, ?_⟩
    rw [← bt_bi_c (bt_in_top (x := v) (n := 2) (by decide))] at h
    exact h
  · exact False.elim h
end
section
/-! A WORLD: road, tractor, row. w 0..6: of stretches (miles, sight, gap, odds, hill, lay by, lane); w 7..11: of cars (kind, need, pace, time, past); w 12: 0 stretches, 1 cars, 2 pace, 3 least, 4 at, 5 time -/
abbrev bt_W : Type := Nat → Nat → Nat
def bt_wf (w : bt_W) : Prop := w 12 0 ≤ 8 ∧ w 12 1 ≤ 6 ∧ w 12 4 ≤ w 12 0 ∧ w 12 2 ≤ 9 ∧ w 12 3 ≤ 6 ∧ w 12 5 ≤ 81 * w 12 4 ∧ (∀ i, w 0 i ≤ 9) ∧ (∀ i, w 1 i ≤ 9) ∧ (∀ i, w 2 i ≤ 9) ∧ (∀ i, w 3 i ≤ 10) ∧ bt_b1 (w 4) ∧ bt_b1 (w 5) ∧ bt_b1 (w 6) ∧ (∀ k, w 7 k ≤ 4) ∧ (∀ k, w 8 k ≤ 9) ∧ (∀ k, w 9 k ≤ 5) ∧ (∀ k, w 10 k ≤ 81 * w 12 4) ∧ bt_b1 (w 11)
/-- the class's object at cell c holds it -/
def bt_cW (M : bt_M) (c : Nat) (w : bt_W) : Prop := bt_wf w ∧
  M c 8 = nI (w 12 0) ∧ M c 9 = nI (bt_mk (w 4) (w 12 0)) ∧ M c 10 = nI (bt_mk (w 5) (w 12 0)) ∧ M c 11 = nI (bt_mk (w 6) (w 12 0)) ∧ M c 12 = nI (w 12 1) ∧ M c 13 = nI (bt_mk (w 11) (w 12 1)) ∧ M c 14 = nI (w 12 2) ∧ M c 15 = nI (w 12 3) ∧ M c 16 = nI (w 12 4) ∧ M c 17 = nI (w 12 5) ∧
  (∀ i, i < w 12 0 → M (c + 1) i = nI (w 0 i)) ∧ (∀ i, i < w 12 0 → M (c + 2) i = nI (w 1 i)) ∧ (∀ i, i < w 12 0 → M (c + 3) i = nI (w 2 i)) ∧ (∀ i, i < w 12 0 → M (c + 4) i = nI (w 3 i)) ∧
  (∀ k, k < w 12 1 → M (c + 5) k = nI (w 7 k)) ∧ (∀ k, k < w 12 1 → M (c + 6) k = nI (w 8 k)) ∧ (∀ k, k < w 12 1 → M (c + 7) k = nI (w 9 k)) ∧ (∀ k, k < w 12 1 → M (c + 8) k = nI (w 10 k))
/-- of use -/
def bt_us (w : bt_W) (i g : Nat) : Nat := if w 6 i = 1 then 9 else min g (w 1 i - w 4 i)
/-- a car passes: f in front of it, led or not -/
def bt_ps (kd nd u f led : Nat) : Prop := (kd = 1 ∧ f = 0 ∧ nd ≤ u) ∨ (kd = 2 ∧ nd * (f + 1) ≤ u) ∨ (kd = 3 ∧ f = 0 ∧ (led = 1 ∨ nd ≤ u)) ∨ (kd = 4 ∧ f = 0 ∧ 2 * nd ≤ u)
theorem bt_ps_iff (kd nd u f led : Nat) : bt_ps kd nd u f led ↔ (kd = 1 ∧ f = 0 ∧ nd ≤ u) ∨ (kd = 2 ∧ nd * (f + 1) ≤ u) ∨ (kd = 3 ∧ f = 0 ∧ (led = 1 ∨ nd ≤ u)) ∨ (kd = 4 ∧ f = 0 ∧ 2 * nd ≤ u) := Iff.rfl
def bt_psB (kd nd u f led : Nat) : Bool := (kd == 1 && f == 0 && Nat.ble nd u) || (kd == 2 && Nat.ble (nd * (f + 1)) u) || (kd == 3 && f == 0 && (led == 1 || Nat.ble nd u)) || (kd == 4 && f == 0 && Nat.ble (2 * nd) u)
/-- before car k: how many are in front, whether the one told ahead has just come past -/
def bt_fr (w : bt_W) (u : Nat) (ps : Nat → Nat) : Nat → Nat × Nat
  | 0 => (0, 0)
  | k + 1 => if ps k = 1 then ((bt_fr w u ps k).1, 0) else if bt_psB (w 7 k) (w 8 k) u (bt_fr w u ps k).1 (bt_fr w u ps k).2 = true then ((bt_fr w u ps k).1, 1) else ((bt_fr w u ps k).1 + 1, 0)
/-- the tractor pulls in -/
def bt_lb (w : bt_W) (i : Nat) (ps : Nat → Nat) : Prop := w 5 i = 1 ∧ w 12 3 ≠ 0 ∧ w 12 3 ≤ bt_ct1 (fun k => 1 - ps k) (w 12 1)
def bt_lbB (w : bt_W) (i : Nat) (ps : Nat → Nat) : Bool := w 5 i == 1 && !(w 12 3 == 0) && Nat.ble (w 12 3) (bt_ct1 (fun k => 1 - ps k) (w 12 1))
/-- who comes past in stretch i with a gap, those of ps being past -/
def bt_cm (w : bt_W) (i g : Nat) (ps : Nat → Nat) (k : Nat) : Nat := if bt_lbB w i ps = true then 1 - ps k else (bt_fr w (bt_us w i g) ps (k + 1)).2
theorem bt_fr_01 (w : bt_W) (u : Nat) (ps : Nat → Nat) : ∀ k, (bt_fr w u ps k).2 ≤ 1 ∧ (bt_fr w u ps k).1 ≤ k
  | 0 => by simp [bt_fr]
  | k + 1 => by
    have := bt_fr_01 w u ps k
    simp only [bt_fr]
    split
    · exact ⟨by omega, by omega⟩
    · split
      · exact ⟨by omega, by omega⟩
      · exact ⟨by omega, by omega⟩
theorem bt_cm_b1 (w : bt_W) (i g : Nat) (ps : Nat → Nat) : bt_b1 (bt_cm w i g ps) := fun k => by
  unfold bt_cm
  split
  · omega
  · exact (bt_fr_01 w _ ps (k + 1)).1
theorem bt_cm_ps (w : bt_W) (i g : Nat) (ps : Nat → Nat) (k : Nat) (h : ps k = 1) : bt_cm w i g ps k = 0 := by
  unfold bt_cm
  split
  · omega
  · simp [bt_fr, h]
theorem bt_cm_le (w : bt_W) (i g : Nat) (ps : Nat → Nat) (hb : bt_b1 ps) (k : Nat) : ps k + bt_cm w i g ps k ≤ 1 := by
  have h1 := bt_cm_b1 w i g ps k
  have h2 := hb k
  by_cases h : ps k = 1
  · rw [bt_cm_ps w i g ps k h]; omega
  · omega
/-- the minutes of car k in stretch i, past or not -/
def bt_mn (w : bt_W) (i k p : Nat) : Nat := w 0 i * (if p = 1 then w 9 k else w 12 2)
/-- a stretch is driven -/
def bt_dv (w : bt_W) (g : Nat) : bt_W := fun f k =>
  if f = 10 then w 10 k + bt_mn w (w 12 4) k (w 11 k + bt_cm w (w 12 4) g (w 11) k)
  else if f = 11 then w 11 k + bt_cm w (w 12 4) g (w 11) k
  else if f = 12 then (if k = 4 then w 12 4 + 1 else if k = 5 then w 12 5 + w 0 (w 12 4) * w 12 2 else w 12 k)
  else w f k
theorem bt_mn_le {w : bt_W} (h : bt_wf w) (i k p : Nat) : bt_mn w i k p ≤ 81 := by
  obtain ⟨h1, h2, h3, h4, h5, h6, h7, h8, h9, h10, h11, h12, h13, h14, h15, h16, h17, h18⟩ := h
  have a1 := h7 i
  have a2 := h16 k
  unfold bt_mn
  calc w 0 i * (if p = 1 then w 9 k else w 12 2) ≤ 9 * 9 := Nat.mul_le_mul a1 (by split <;> omega)
    _ = 81 := rfl
theorem bt_dv_wf {w : bt_W} {g : Nat} (h : bt_wf w) (hat : w 12 4 < w 12 0) : bt_wf (bt_dv w g) := by
  have hmn := bt_mn_le h
  obtain ⟨h1, h2, h3, h4, h5, h6, h7, h8, h9, h10, h11, h12, h13, h14, h15, h16, h17, h18⟩ := h
  have hmul : w 0 (w 12 4) * w 12 2 ≤ 81 := by
    calc w 0 (w 12 4) * w 12 2 ≤ 9 * 9 := Nat.mul_le_mul (h7 _) h4
      _ = 81 := rfl
  refine ⟨by simpa [bt_dv] using h1, by simpa [bt_dv] using h2, by simp [bt_dv]; omega, by simpa [bt_dv] using h4, by simpa [bt_dv] using h5, by simp [bt_dv]; omega, by simpa [bt_dv] using h7, by simpa [bt_dv] using h8, by simpa [bt_dv] using h9, by simpa [bt_dv] using h10, by simpa [bt_dv, bt_b1] using h11, by simpa [bt_dv, bt_b1] using h12, by simpa [bt_dv, bt_b1] using h13, by simpa [bt_dv] using h14, by simpa [bt_dv] using h15, by simpa [bt_dv] using h16, fun k => ?_, fun k => ?_⟩
  · have := hmn (w 12 4) k (w 11 k + bt_cm w (w 12 4) g (w 11) k)
    have := h17 k
    simp [bt_dv]
    omega
  · have := bt_cm_le w (w 12 4) g (w 11) h18 k
    simpa [bt_dv] using this
end
section
/-! THE JDK'S SMALL METHODS -/
def bt_ur (x s : Int32) : Int32 := (x.toUInt32 >>> (s.toUInt32 &&& Int32.toUInt32 31)).toInt32
def bt_bc1 (x : Int32) : Int32 := x - (bt_ur x 1 &&& 1431655765)
def bt_bc2 (x : Int32) : Int32 := (x &&& 858993459) + (bt_ur x 2 &&& 858993459)
def bt_bc3 (x : Int32) : Int32 := (x + bt_ur x 4) &&& 252645135
def bt_bc4 (x : Int32) : Int32 := x + bt_ur x 8
def bt_bc5 (x : Int32) : Int32 := (x + bt_ur x 16) &&& 63
def bt_bc (x : Int32) : Int32 := bt_bc5 (bt_bc4 (bt_bc3 (bt_bc2 (bt_bc1 x))))
def sJ6_bitCount_0f7a4 : bt_Sp := fun as M N K => match as with
  | [.int x] => K (some (.int (bt_bc x))) M N
  | _ => False
theorem mJ6_bitCount_0f7a4 : bt_MT bt_TJ6_bitCount_0f7a4 [] [] 1 1 sJ6_bitCount_0f7a4 := by
  intro as M N Rt h P hP
  unfold sJ6_bitCount_0f7a4 at h
  split at h
  · exact bt_go0 rfl hP 60 h
  · exact False.elim h
def bt_pc (a : Nat) : Nat := bt_ct1 (fun k => a / 2 ^ k % 2) 8
theorem bt_bc_ok : ∀ a, a < 256 → bt_bc (nI a) = nI (bt_pc a) := by decide +kernel
theorem bt_ct1_pad {f g : Nat → Nat} {n : Nat} (h : ∀ k, k < n → g k = f k) : ∀ d, (∀ k, n ≤ k → g k = 0) → bt_ct1 g (n + d) = bt_ct1 f n
  | 0, _ => bt_ct1_c h
  | d + 1, h0 => by
    rw [← Nat.add_assoc]
    simp only [bt_ct1]
    rw [bt_ct1_pad h d h0, h0 (n + d) (by omega)]
    omega
theorem bt_pc_mk {f : Nat → Nat} (h : bt_b1 f) {n : Nat} (hn : n ≤ 8) : bt_pc (bt_mk f n) = bt_ct1 f n := by
  unfold bt_pc
  have := bt_ct1_pad (f := f) (g := fun k => bt_mk f n / 2 ^ k % 2) (n := n) (fun k hk => by simp only [bt_mk_bit h, if_pos hk]) (8 - n) (fun k hk => by simp only [bt_mk_bit h]; rw [if_neg (by omega)])
  rw [show n + (8 - n) = 8 by omega] at this
  exact this
theorem bt_bc_mk {f : Nat → Nat} (h : bt_b1 f) {n : Nat} (hn : n ≤ 8) : bt_bc (nI (bt_mk f n)) = nI (bt_ct1 f n) := by
  have h1 := bt_mk_lt h n
  have h2 : 2 ^ n ≤ 2 ^ 8 := Nat.pow_le_pow_right (by omega) hn
  rw [bt_bc_ok _ (by omega), bt_pc_mk h hn]
def sJ9_max_7cf53 : bt_Sp := fun as M N K => match as with
  | [.int a, .int b] => K (some (.int (if a < b then b else a))) M N
  | _ => False
theorem mJ9_max_7cf53 : bt_MT bt_TJ9_max_7cf53 [] [] 1 2 sJ9_max_7cf53 := by
  intro as M N Rt h P hP
  unfold sJ9_max_7cf53 at h
  split at h
  · refine bt_go0 rfl hP 20 ?_
    refine ⟨fun h1 => ?_, fun h1 => ?_⟩
    · rw [if_pos h1] at h; exact h
    · rw [if_neg h1] at h; exact h
  · exact False.elim h
def sJ9_min_7cf53 : bt_Sp := fun as M N K => match as with
  | [.int a, .int b] => K (some (.int (if b < a then b else a))) M N
  | _ => False
theorem mJ9_min_7cf53 : bt_MT bt_TJ9_min_7cf53 [] [] 1 2 sJ9_min_7cf53 := by
  intro as M N Rt h P hP
  unfold sJ9_min_7cf53 at h
  split at h
  · refine bt_go0 rfl hP 20 ?_
    refine ⟨fun h1 => ?_, fun h1 => ?_⟩
    · rw [if_pos h1] at h; exact h
    · rw [if_neg h1] at h; exact h
  · exact False.elim h
def sJ9_max_f86c9 : bt_Sp := fun as M N K => match as with
  | [.long a, .long b] => K (some (.long (if a < b then b else a))) M N
  | _ => False
theorem mJ9_max_f86c9 : bt_MT bt_TJ9_max_f86c9 [] [] 3 4 sJ9_max_f86c9 := by
  intro as M N Rt h P hP
  unfold sJ9_max_f86c9 at h
  split at h
  · refine bt_go0 rfl hP 20 ?_
    refine ⟨fun h1 => ?_, fun h1 => ?_⟩
    · rw [if_pos (bt_cmp_lt.mp h1)] at h; exact h
    · rw [if_neg (fun q => h1 (bt_cmp_lt.mpr q))] at h; exact h
  · exact False.elim h
end
section
/-! THE CLASS: World -/
abbrev bt_wc (c : Nat) : Prop := c = 2 ∨ c = 11
theorem bt_ev : ∀ m, m < 9 → ((1 : Int32) <<< (nI m &&& 31)) - 1 = nI (2 ^ m - 1) := by decide +kernel
def sX4_everybody : bt_Sp := fun as M N K => match as with
  | [.ref c] => ∃ m, bt_wc c ∧ M c 12 = nI m ∧ m ≤ 6 ∧ K (some (.int (nI (2 ^ m - 1)))) M N
  | _ => False
theorem mX4_everybody : bt_MT bt_TX4_everybody bt_FX4 [] 1 1 sX4_everybody := by
  intro as M N Rt h P hP
  unfold sX4_everybody at h
  split at h
  · obtain ⟨m, hc, hm, h6, h⟩ := h
    rw [← bt_ev m (by omega), ← hm] at h
    rcases hc with rfl | rfl <;> exact bt_go0 rfl hP 20 h
  · exact False.elim h
def bt_CX4_behind : bt_C := [(73, 1, 1, sX4_everybody)]
def sX4_behind : bt_Sp := fun as M N K => match as with
  | [.ref c, .int p] => ∃ m a, bt_wc c ∧ M c 12 = nI m ∧ m ≤ 6 ∧ p = nI a ∧ a < 2 ^ m ∧ K (some (.int (nI (2 ^ m - 1 - a)))) M N
  | _ => False
theorem mX4_behind : bt_MT bt_TX4_behind bt_FX4 bt_CX4_behind 1 2 sX4_behind := by
  intro as M N Rt h P hP
  unfold sX4_behind at h
  split at h
  · obtain ⟨m, a, hc, hm, h6, rfl, ha, h⟩ := h
    rw [← bt_notN m (by omega) a ha] at h
    rcases hc with rfl | rfl <;> exact bt_go0 rfl hP 20 ⟨m, by first | exact Or.inl rfl | exact Or.inr rfl, hm, h6, h⟩
  · exact False.elim h
def bt_CX4_ofUse : bt_C := [(77, 0, 2, sX5_bit), (90, 0, 2, sJ9_max_7cf53), (95, 0, 2, sJ9_min_7cf53)]
def sX4_ofUse : bt_Sp := fun as M N K => match as with
  | [.ref c, .int i, .int g] => ∃ w i' g', bt_wc c ∧ bt_cW M c w ∧ i = nI i' ∧ i' < w 12 0 ∧ g = nI g' ∧ g' ≤ 9 ∧ K (some (.int (nI (bt_us w i' g')))) M N
  | _ => False
theorem bt_sub01 {a b : Nat} (ha : a ≤ 9) (hb : b ≤ 1) : (if (0 : Int32) < nI a - nI b then nI a - nI b else 0) = nI (a - b) := by
  have : ∀ a, a < 10 → ∀ b, b < 2 → (if (0 : Int32) < nI a - nI b then nI a - nI b else 0) = nI (a - b) := by decide +kernel
  exact this a (by omega) b (by omega)
theorem bt_minN {a b : Nat} (ha : a < 2 ^ 31) (hb : b < 2 ^ 31) : (if nI b < nI a then nI b else nI a) = nI (min a b) := by
  by_cases h : b < a
  · rw [if_pos ((nI_ltI hb ha).mpr h), Nat.min_eq_right (by omega)]
  · rw [if_neg (fun q => h ((nI_ltI hb ha).mp q)), Nat.min_eq_left (by omega)]
theorem mX4_ofUse : bt_MT bt_TX4_ofUse bt_FX4 bt_CX4_ofUse 1 4 sX4_ofUse := by
  intro as M N Rt h P hP
  unfold sX4_ofUse at h
  split at h
  · obtain ⟨w, i, g, hc, hw, rfl, hi, rfl, hg, h⟩ := h
    obtain ⟨hf, h8, h9, h10, h11, h12, h13, h14, h15, h16, h17, r1, r2, r3, r4, r5, r6, r7, r8⟩ := hw
    obtain ⟨f1, f2, f3, f4, f5, f6, f7, f8, f9, f10, f11, f12, f13, f14, f15, f16, f17, f18⟩ := hf
    have e1 : ∀ c, M c 11 = nI (bt_mk (w 6) (w 12 0)) → (M c 11 >>> (nI i &&& 31)) &&& 1 = nI (w 6 i) := by
      intro c hc
      rw [hc, bt_bitN f13 (by omega) (by omega), if_pos hi]
    have e2 : ∀ c, M c 9 = nI (bt_mk (w 4) (w 12 0)) → (M c 9 >>> (nI i &&& 31)) &&& 1 = nI (w 4 i) := by
      intro c hc
      rw [hc, bt_bitN f11 (by omega) (by omega), if_pos hi]
    have e1 := e1 _ h11
    have e2 := e2 _ h9
    have e3 := r2 i hi
    have g1 := f13 i
    have g2 := f11 i
    have g3 := f8 i
    have key : ∀ x y z : Int32, x = nI (w 6 i) → y = nI (w 1 i) → z = nI (w 4 i) → (¬ x = 1 → (if (if (0 : Int32) < y - z then y - z else 0) < nI g then (if (0 : Int32) < y - z then y - z else 0) else nI g) = nI (bt_us w i g)) ∧ (x = 1 → 9 = nI (bt_us w i g)) := by
      intro x y z hx hy hz
      subst hx hy hz
      refine ⟨fun h1 => ?_, fun h1 => ?_⟩
      · have : ¬ w 6 i = 1 := fun q => h1 (by rw [q]; rfl)
        rw [bt_sub01 g3 g2, bt_minN (by omega) (by omega), bt_us, if_neg this]
      · have : w 6 i = 1 := (nI_eq (by omega) (by omega)).mp (h1.trans (bt_lit 1))
        rw [bt_us, if_pos this]
        rfl
    obtain ⟨k1, k2⟩ := key _ _ _ e1 e3 e2
    rcases hc with rfl | rfl
    all_goals
      refine bt_go0 rfl hP 40 ?_
      refine ⟨fun q => ?_, fun q => ?_⟩
      · refine ⟨_, rfl, i, rfl, by omega, ?_⟩
        rw [← k1 q] at h
        exact h
      · rw [← k2 q] at h
        exact h
  · exact False.elim h
end
section
/-! THE CLASS: World, who passes -/
theorem bt_psB_iff (kd nd u f led : Nat) : bt_psB kd nd u f led = true ↔ bt_ps kd nd u f led := by
  unfold bt_psB bt_ps
  simp only [Bool.or_eq_true, Bool.and_eq_true, beq_iff_eq, Nat.ble_eq]
  grind
def sX4_passes : bt_Sp := fun as M N K => match as with
  | [.ref c, .int k, .int u, .int f, .int led] => ∃ w k' u' f' l', bt_wc c ∧ bt_cW M c w ∧ k = nI k' ∧ k' < w 12 1 ∧ u = nI u' ∧ u' ≤ 9 ∧ f = nI f' ∧ f' ≤ 6 ∧ led = nI l' ∧ l' ≤ 1 ∧ K (some (.int (if bt_psB (w 7 k') (w 8 k') u' f' l' = true then 1 else 0))) M N
  | _ => False
theorem bt_nlt {a b : Nat} (ha : a < 2 ^ 31) (hb : b < 2 ^ 31) : nI a < nI b ↔ a < b := nI_ltI ha hb
set_option maxHeartbeats 1000000 in
theorem mX4_passes : bt_MT bt_TX4_passes bt_FX4 [] 2 6 sX4_passes := by
  intro as M N Rt h P hP
  unfold sX4_passes at h
  split at h
  · obtain ⟨w, k, u, f, l, hc, hw, rfl, hk, rfl, hu, rfl, hf6, rfl, hl1, h⟩ := h
    obtain ⟨hf, h8, h9, h10, h11, h12, h13, h14, h15, h16, h17, r1, r2, r3, r4, r5, r6, r7, r8⟩ := hw
    obtain ⟨f1, f2, f3, f4, f5, f6, f7, f8, f9, f10, f11, f12, f13, f14, f15, f16, f17, f18⟩ := hf
    have e1 := r5 k hk
    have e2 := r6 k hk
    have g1 := f14 k
    have g2 := f15 k
    generalize hkd : w 7 k = kd at e1 g1 h
    generalize hnd : w 8 k = nd at e2 g2 h
    have hmul : nd * (f + 1) ≤ 63 := by
      calc nd * (f + 1) ≤ 9 * 7 := Nat.mul_le_mul g2 (by omega)
        _ = 63 := rfl
    have n0 : ∀ a : Nat, a < 2 ^ 31 → (nI a = 0 ↔ a = 0) := fun a ha => by rw [← nI_0]; exact nI_eq ha (by omega)
    have hnf := n0 f (by omega)
    have hnl := n0 l (by omega)
    have hlt := bt_nlt (a := u) (b := nd) (by omega) (by omega)
    have hlt2 := bt_nlt (a := u) (b := nd * (f + 1)) (by omega) (by omega)
    have hlt3 := bt_nlt (a := u) (b := 2 * nd) (by omega) (by omega)
    have em1 : nI nd * (nI f + 1) = nI (nd * (f + 1)) := by rw [nI_1, pk_mul]
    have em2 : (2 : Int32) * nI nd = nI (2 * nd) := pk_mul 2 nd
    have ek : ∀ a : Nat, a < 9 → (nI kd = nI a ↔ kd = a) := fun a ha => nI_eq (by omega) (by omega)
    have no : ¬ bt_psB kd nd u f l = true → Rt (some (.int 0)) M N := fun q => by rw [if_neg q] at h; exact h
    have yes : bt_psB kd nd u f l = true → Rt (some (.int 1)) M N := fun q => by rw [if_pos q] at h; exact h
    rw [bt_psB_iff] at no yes
    unfold bt_ps at no yes
    rcases hc with rfl | rfl
    all_goals
      refine bt_go0 rfl hP 40 ?_
      refine ⟨_, rfl, k, rfl, by omega, ?_⟩
      refine ⟨_, rfl, k, rfl, by omega, ?_⟩
      refine ⟨fun q => ?_, fun q => ⟨fun q2 => ?_, fun q2 => ⟨fun q3 => ?_, fun q3 => ⟨fun q4 => ?_, fun q4 => ?_⟩⟩⟩⟩
      · have q := (ek 1 (by omega)).mp (e1.symm.trans q)
        refine ⟨fun a => ⟨Or.inl rfl, no ?_⟩, fun a => ⟨fun b => ⟨Or.inl rfl, no ?_⟩, fun b => ⟨Or.inr rfl, yes ?_⟩⟩⟩
        · rw [hnf] at a; omega
        · rw [e2, hlt] at b; omega
        · rw [hnf] at a; rw [e2, hlt] at b; omega
      · have q := (ek 2 (by omega)).mp (e1.symm.trans q2)
        refine ⟨fun b => ⟨Or.inl rfl, no ?_⟩, fun b => ⟨Or.inr rfl, yes ?_⟩⟩
        · rw [e2, em1, hlt2] at b; omega
        · rw [e2, em1, hlt2] at b; omega
      · have q := (ek 3 (by omega)).mp (e1.symm.trans q3)
        refine ⟨fun a => ⟨Or.inl rfl, no ?_⟩, fun a => ⟨fun d => ⟨Or.inr rfl, yes ?_⟩, fun d => ⟨fun b => ⟨Or.inl rfl, no ?_⟩, fun b => ⟨Or.inr rfl, yes ?_⟩⟩⟩⟩
        · rw [hnf] at a; omega
        · rw [hnf] at a; rw [hnl] at d; omega
        · rw [hnf] at a; rw [hnl] at d; rw [e2, hlt] at b; omega
        · rw [hnf] at a; rw [hnl] at d; rw [e2, hlt] at b; omega
      · have q := (ek 4 (by omega)).mp (e1.symm.trans q4)
        refine ⟨fun a => ⟨Or.inl rfl, no ?_⟩, fun a => ⟨fun b => ⟨Or.inl rfl, no ?_⟩, fun b => ⟨Or.inr rfl, yes ?_⟩⟩⟩
        · rw [hnf] at a; omega
        · rw [e2, em2, hlt3] at b; omega
        · rw [hnf] at a; rw [e2, em2, hlt3] at b; omega
      · refine ⟨Or.inl rfl, no ?_⟩
        have a1 : ¬ kd = 1 := fun z => q (e1.trans ((ek 1 (by omega)).mpr z))
        have a2 : ¬ kd = 2 := fun z => q2 (e1.trans ((ek 2 (by omega)).mpr z))
        have a3 : ¬ kd = 3 := fun z => q3 (e1.trans ((ek 3 (by omega)).mpr z))
        have a4 : ¬ kd = 4 := fun z => q4 (e1.trans ((ek 4 (by omega)).mpr z))
        omega
  · exact False.elim h
def bt_CX4_minutes : bt_C := [(77, 0, 2, sX5_bit)]
def sX4_minutes : bt_Sp := fun as M N K => match as with
  | [.ref c, .int i, .int k, .int p] => ∃ i' k' m ps a b d, bt_wc c ∧ i = nI i' ∧ i' < 8 ∧ k = nI k' ∧ k' < m ∧ m ≤ 6 ∧ bt_b1 ps ∧ p = nI (bt_mk ps m) ∧ M (c + 1) i' = nI a ∧ M (c + 7) k' = nI b ∧ M c 14 = nI d ∧ K (some (.int (nI (a * (if ps k' = 1 then b else d))))) M N
  | _ => False
theorem mX4_minutes : bt_MT bt_TX4_minutes bt_FX4 bt_CX4_minutes 1 4 sX4_minutes := by
  intro as M N Rt h P hP
  unfold sX4_minutes at h
  split at h
  · obtain ⟨i, k, m, ps, a, b, d, hc, rfl, hi, rfl, hk, hm, hb, rfl, e1, e2, h14, h⟩ := h
    have e3 : (nI (bt_mk ps m) >>> (nI k &&& 31)) &&& 1 = nI (ps k) := by
      rw [bt_bitN hb (by omega) (by omega), if_pos hk]
    have g1 := hb k
    have n1 : nI (ps k) = 1 ↔ ps k = 1 := nI_eq (b := 1) (by omega) (by omega)
    rcases hc with rfl | rfl
    all_goals
      refine bt_go0 rfl hP 40 ?_
      refine ⟨_, rfl, i, rfl, by omega, ?_⟩
      refine ⟨fun q => ?_, fun q => ?_⟩
      · rw [e3, n1] at q
        rw [if_neg q, ← pk_mul, ← e1, ← h14] at h
        exact h
      · rw [e3, n1] at q
        refine ⟨_, rfl, k, rfl, by omega, ?_⟩
        rw [if_pos q, ← pk_mul, ← e1, ← e2] at h
        exact h
  · exact False.elim h
end
section
/-! THE CLASS: World, who comes past in a stretch -/
theorem bt_or1 : ∀ k, k < 8 → ∀ a, a < 2 ^ k → nI a ||| ((1 : Int32) <<< (nI k &&& 31)) = nI (a + 2 ^ k) := by decide +kernel
theorem bt_us_le {w : bt_W} (hf : bt_wf w) {i g : Nat} : bt_us w i g ≤ 9 := by
  have := hf.2.2.2.2.2.2.2.1 i
  unfold bt_us
  split
  · omega
  · omega
theorem bt_n0 {a : Nat} (h : a < 2 ^ 31) : nI a = 0 ↔ a = 0 := by
  rw [← nI_0]
  exact nI_eq h (by omega)
theorem bt_n1 {a : Nat} (h : a < 2 ^ 31) : nI a = 1 ↔ a = 1 := nI_eq (b := 1) h (by omega)
theorem bt_le0 {a : Nat} (h : a < 2 ^ 31) : nI a ≤ 0 ↔ a = 0 := by
  rw [← nI_0, nI_leI h (by omega)]
  omega
def bt_CX4_comers : bt_C := [(81, 1, 2, sX4_behind), (77, 0, 2, sX5_bit), (85, 0, 1, sJ6_bitCount_0f7a4), (98, 1, 3, sX4_ofUse), (101, 1, 5, sX4_passes)]
def sX4_comers : bt_Sp := fun as M N K => match as with
  | [.ref c, .int i, .int g, .int p] => ∃ w i' g' ps, bt_wc c ∧ bt_cW M c w ∧ i = nI i' ∧ i' < w 12 0 ∧ g = nI g' ∧ g' ≤ 9 ∧ bt_b1 ps ∧ p = nI (bt_mk ps (w 12 1)) ∧ K (some (.int (nI (bt_mk (bt_cm w i' g' ps) (w 12 1))))) M N
  | _ => False
theorem bt_lbB_iff (w : bt_W) (i : Nat) (ps : Nat → Nat) : bt_lbB w i ps = true ↔ bt_lb w i ps := by
  unfold bt_lbB bt_lb
  simp only [Bool.and_eq_true, beq_iff_eq, Nat.ble_eq, Bool.not_eq_true', beq_eq_false_iff_ne, ne_eq]
  grind
set_option maxHeartbeats 2000000 in
theorem mX4_comers : bt_MT bt_TX4_comers bt_FX4 bt_CX4_comers 1 10 sX4_comers := by
  intro as M N Rt h P hP
  unfold sX4_comers at h
  split at h
  · obtain ⟨w, i, g, ps, hc, hw, rfl, hi, rfl, hg, hb, rfl, h⟩ := h
    obtain ⟨hf, h8, h9, h10, h11, h12, h13, h14, h15, h16, h17, r1, r2, r3, r4, r5, r6, r7, r8⟩ := id hw
    obtain ⟨f1, f2, f3, f4, f5, f6, f7, f8, f9, f10, f11, f12, f13, f14, f15, f16, f17, f18⟩ := id hf
    have hus := bt_us_le hf (i := i) (g := g)
    generalize hu : bt_us w i g = u at hus
    have hlt := bt_mk_lt hb (w 12 1)
    have hnb : bt_b1 (fun k => 1 - ps k) := bt_b1_not
    have ebit : nI (bt_mk (w 5) (w 12 0)) >>> (nI i &&& 31) &&& 1 = nI (w 5 i) := by
      rw [bt_bitN f12 (by omega) (by omega), if_pos hi]
    have hbc := bt_bc_mk hnb (n := w 12 1) (by omega)
    have hct := bt_ct1_le hnb (w 12 1)
    have ebk : ∀ k, k < w 12 1 → nI (bt_mk (fun k => 1 - ps k) (w 12 1)) >>> (nI k &&& 31) &&& 1 = nI (1 - ps k) := by
      intro k hk
      rw [bt_bitN hnb (by omega) (by omega), if_pos hk]
    have hcf : bt_b1 (fun j => (bt_fr w u ps (j + 1)).2) := fun j => (bt_fr_01 w u ps (j + 1)).1
    have body : ∀ c, bt_wc c → M c 12 = nI (w 12 1) → M c 10 = nI (bt_mk (w 5) (w 12 0)) → M c 15 = nI (w 12 3) → bt_cW M c w → (¬ bt_lb w i ps → Rt (some (.int (nI (bt_mk (fun j => (bt_fr w u ps (j + 1)).2) (w 12 1))))) M N) → (bt_lb w i ps → Rt (some (.int (nI (bt_mk (fun k => 1 - ps k) (w 12 1))))) M N) → P 0 (bt_en 10 [.ref c, .int (nI i), .int (nI g), .int (nI (bt_mk ps (w 12 1)))]) [] M N := by
      intro c hc h12 h10 h15 hw hno hyes
      have loop : ¬ bt_lb w i ps → ∀ v pc L st M' N', (M' = M ∧ N' = N ∧ ∃ k x9, k ≤ w 12 1 ∧ L = [some (.ref c), some (.int (nI i)), some (.int (nI g)), some (.int (nI (bt_mk ps (w 12 1)))), some (.int (nI (bt_mk (fun k => 1 - ps k) (w 12 1)))), some (.int (nI u)), some (.int (nI (bt_mk (fun j => (bt_fr w u ps (j + 1)).2) k))), some (.int (nI (bt_fr w u ps k).1)), some (.int (nI k)), x9] ∧ ((pc = 58 ∧ st = [] ∧ v = 2 * (w 12 1 - k) + 1) ∨ (pc = 103 ∧ k < w 12 1 ∧ ps k = 0 ∧ st = [.int (nI (bt_fr w u ps k).2)] ∧ v = 2 * (w 12 1 - k)))) → P pc L st M' N' := by
        intro hlb
        refine bt_loop rfl hP 60 [58, 103] (fun v pc L st M' N' => (M' = M ∧ N' = N ∧ ∃ k x9, k ≤ w 12 1 ∧ L = [some (.ref c), some (.int (nI i)), some (.int (nI g)), some (.int (nI (bt_mk ps (w 12 1)))), some (.int (nI (bt_mk (fun k => 1 - ps k) (w 12 1)))), some (.int (nI u)), some (.int (nI (bt_mk (fun j => (bt_fr w u ps (j + 1)).2) k))), some (.int (nI (bt_fr w u ps k).1)), some (.int (nI k)), x9] ∧ ((pc = 58 ∧ st = [] ∧ v = 2 * (w 12 1 - k) + 1) ∨ (pc = 103 ∧ k < w 12 1 ∧ ps k = 0 ∧ st = [.int (nI (bt_fr w u ps k).2)] ∧ v = 2 * (w 12 1 - k))))) ?_
        rintro v pc L st M' N' ⟨rfl, rfl, k, x9, hk, rfl, ⟨rfl, rfl, rfl⟩ | ⟨rfl, hkm, hps, rfl, rfl⟩⟩
        · -- the head
          have hfr := bt_fr_01 w u ps k
          have hpk := hb k
          have nk := bt_n0 (a := 1 - ps k) (by omega)
          rcases hc with rfl | rfl
          all_goals
            refine ⟨fun q => ?_, fun q => ?_⟩
            · rw [h12, nI_leI (by omega) (by omega)] at q
              have : k = w 12 1 := by omega
              subst this
              exact hno hlb
            · rw [h12, nI_leI (by omega) (by omega)] at q
              have hkm : k < w 12 1 := by omega
              refine ⟨fun q2 => ?_, fun q2 => ?_⟩
              · -- it is behind yet
                rw [ebk k hkm, nk] at q2
                refine ⟨fun q3 => ?_, fun q3 => ?_⟩
                · rw [bt_le0 (by omega)] at q3
                  subst q3
                  exact ⟨2 * (w 12 1 - 0), by omega, rfl, rfl, 0, x9, hk, rfl, Or.inr ⟨rfl, hkm, by omega, rfl, rfl⟩⟩
                · rw [bt_le0 (by omega)] at q3
                  obtain ⟨j, rfl⟩ : ∃ j, k = j + 1 := ⟨k - 1, by omega⟩
                  have ej : nI (bt_mk (fun j => (bt_fr w u ps (j + 1)).2) (j + 1)) >>> ((nI (j + 1) - 1) &&& 31) &&& 1 = nI (bt_fr w u ps (j + 1)).2 := by
                    rw [nI_pred, bt_bitN hcf (by omega) (by omega), if_pos (by omega)]
                  have n1 := bt_n1 (a := (bt_fr w u ps (j + 1)).2) (by omega)
                  refine ⟨fun q4 => ?_, fun q4 => ?_⟩
                  · rw [ej, n1] at q4
                    refine ⟨2 * (w 12 1 - (j + 1)), by omega, rfl, rfl, j + 1, x9, hk, rfl, Or.inr ⟨rfl, hkm, by omega, ?_, rfl⟩⟩
                    rw [show (bt_fr w u ps (j + 1)).2 = 0 by omega]
                    rfl
                  · rw [ej, n1] at q4
                    refine ⟨2 * (w 12 1 - (j + 1)), by omega, rfl, rfl, j + 1, x9, hk, rfl, Or.inr ⟨rfl, hkm, by omega, ?_, rfl⟩⟩
                    rw [q4]
                    rfl
              · -- it is past
                rw [ebk k hkm, nk] at q2
                have hp1 : ps k = 1 := by omega
                have hfs : bt_fr w u ps (k + 1) = ((bt_fr w u ps k).1, 0) := by simp [bt_fr, hp1]
                refine ⟨2 * (w 12 1 - (k + 1)) + 1, by omega, rfl, rfl, k + 1, x9, by omega, ?_, Or.inl ⟨rfl, rfl, rfl⟩⟩
                simp only [bt_mk, hfs, Nat.zero_mul, Nat.add_zero, ← nI_1]
        · -- whether it passes
          have hfr := bt_fr_01 w u ps k
          have hml := bt_mk_lt hcf k
          have hmp : ¬ ps k = 1 := by omega
          rcases hc with rfl | rfl
          all_goals
            refine ⟨w, k, u, (bt_fr w u ps k).1, (bt_fr w u ps k).2, by first | exact Or.inl rfl | exact Or.inr rfl, hw, rfl, hkm, rfl, hus, rfl, by omega, rfl, by omega, ?_⟩
            by_cases hpass : bt_psB (w 7 k) (w 8 k) u (bt_fr w u ps k).1 (bt_fr w u ps k).2 = true
            · have hfs : bt_fr w u ps (k + 1) = ((bt_fr w u ps k).1, 1) := by simp [bt_fr, hmp, hpass]
              rw [if_pos hpass]
              refine ⟨fun q => absurd q (by decide), fun _ => ?_⟩
              refine ⟨2 * (w 12 1 - (k + 1)) + 1, by omega, rfl, rfl, k + 1, some (.int (nI (bt_fr w u ps k).2)), by omega, ?_, Or.inl ⟨rfl, rfl, rfl⟩⟩
              rw [bt_or1 k (by omega) _ hml]
              simp only [bt_mk, hfs, Nat.one_mul, ← nI_1]
            · have hfs : bt_fr w u ps (k + 1) = ((bt_fr w u ps k).1 + 1, 0) := by simp [bt_fr, hmp, hpass]
              rw [if_neg hpass]
              refine ⟨fun _ => ?_, fun q => absurd rfl q⟩
              refine ⟨2 * (w 12 1 - (k + 1)) + 1, by omega, rfl, rfl, k + 1, some (.int (nI (bt_fr w u ps k).2)), by omega, ?_, Or.inl ⟨rfl, rfl, rfl⟩⟩
              simp only [bt_mk, hfs, Nat.zero_mul, Nat.add_zero, ← nI_1]
      have rest : ¬ bt_lb w i ps → ∀ x5 x6 x7 x8 x9, P 41 [some (.ref c), some (.int (nI i)), some (.int (nI g)), some (.int (nI (bt_mk ps (w 12 1)))), some (.int (nI (bt_mk (fun k => 1 - ps k) (w 12 1)))), x5, x6, x7, x8, x9] [] M N := by
        intro hlb x5 x6 x7 x8 x9
        refine bt_go rfl hP 60 [58] P (fun _ _ _ _ _ h => h) ?_
        rcases hc with rfl | rfl
        all_goals
          refine ⟨w, i, g, by first | exact Or.inl rfl | exact Or.inr rfl, hw, rfl, hi, rfl, hg, ?_⟩
          rw [hu]
          exact loop hlb _ _ _ _ _ _ ⟨rfl, rfl, 0, x9, Nat.zero_le _, rfl, Or.inl ⟨rfl, rfl, rfl⟩⟩
      refine bt_go rfl hP 60 [41] P (fun _ _ _ _ _ h => h) ?_
      have n5 := bt_n1 (a := w 5 i) (by have := f12 i; omega)
      have n3 := bt_n0 (a := w 12 3) (by omega)
      rcases hc with rfl | rfl
      all_goals
        refine ⟨w 12 1, bt_mk ps (w 12 1), by first | exact Or.inl rfl | exact Or.inr rfl, h12, f2, rfl, hlt, ?_⟩
        rw [bt_mk_not hb]
        refine ⟨fun q => ?_, fun q => ?_⟩
        · rw [h10, ebit, n5] at q
          exact rest (fun z => q z.1) _ _ _ _ _
        · rw [h10, ebit, n5] at q
          refine ⟨fun q2 => ?_, fun q2 => ?_⟩
          · rw [h15, n3] at q2
            exact rest (fun z => z.2.1 q2) _ _ _ _ _
          · rw [h15, n3] at q2
            refine ⟨fun q3 => ?_, fun q3 => ?_⟩
            · rw [h15, hbc, nI_ltI (by omega) (by omega)] at q3
              exact rest (fun z => by have := z.2.2; omega) _ _ _ _ _
            · rw [h15, hbc, nI_ltI (by omega) (by omega)] at q3
              exact hyes ⟨q, q2, by omega⟩
    have hno : ¬ bt_lb w i ps → Rt (some (.int (nI (bt_mk (fun j => (bt_fr w u ps (j + 1)).2) (w 12 1))))) M N := by
      intro z
      rw [← bt_lbB_iff] at z
      rw [bt_mk_c (f := bt_cm w i g ps) (g := fun j => (bt_fr w u ps (j + 1)).2) (fun k _ => by unfold bt_cm; rw [if_neg z, hu])] at h
      exact h
    have hyes : bt_lb w i ps → Rt (some (.int (nI (bt_mk (fun k => 1 - ps k) (w 12 1))))) M N := by
      intro z
      rw [← bt_lbB_iff] at z
      rw [bt_mk_c (f := bt_cm w i g ps) (g := fun k => 1 - ps k) (fun k _ => by unfold bt_cm; rw [if_pos z])] at h
      exact h
    exact body _ hc h12 h10 h15 hw hno hyes
  · exact False.elim h
end
section
/-! THE CLASS: World, a stretch is driven -/
theorem bt_up_s {α : Type} {f : Nat → α} {a : Nat} {v : α} : va_up f a v a = v := by simp [va_up]
theorem bt_up_n {α : Type} {f : Nat → α} {a b : Nat} {v : α} (h : b ≠ a) : va_up f a v b = f b := by simp [va_up, h]
theorem bt_dv_cW {M M' : bt_M} {c g : Nat} {w : bt_W} (hw : bt_cW M c w) (hat : w 12 4 < w 12 0) (h1 : ∀ x, x ≠ c → x ≠ c + 8 → M' x = M x) (h2 : ∀ f, f ≠ 13 → f ≠ 16 → f ≠ 17 → M' c f = M c f)
    (h3 : M' c 13 = nI (bt_mk (fun k => w 11 k + bt_cm w (w 12 4) g (w 11) k) (w 12 1))) (h4 : M' c 16 = nI (w 12 4 + 1)) (h5 : M' c 17 = nI (w 12 5 + w 0 (w 12 4) * w 12 2)) (h6 : ∀ k, k < w 12 1 → M' (c + 8) k = nI (w 10 k + bt_mn w (w 12 4) k (w 11 k + bt_cm w (w 12 4) g (w 11) k))) : bt_cW M' c (bt_dv w g) := by
  obtain ⟨hf, h8, h9, h10, h11, h12, h13, h14, h15, h16, h17, r1, r2, r3, r4, r5, r6, r7, r8⟩ := hw
  refine ⟨bt_dv_wf hf hat, ?_, ?_, ?_, ?_, ?_, ?_, ?_, ?_, ?_, ?_, ?_, ?_, ?_, ?_, ?_, ?_, ?_, ?_⟩
  · rw [h2 8 (by omega) (by omega) (by omega), h8]; rfl
  · rw [h2 9 (by omega) (by omega) (by omega), h9]; rfl
  · rw [h2 10 (by omega) (by omega) (by omega), h10]; rfl
  · rw [h2 11 (by omega) (by omega) (by omega), h11]; rfl
  · rw [h2 12 (by omega) (by omega) (by omega), h12]; rfl
  · exact h3
  · rw [h2 14 (by omega) (by omega) (by omega), h14]; rfl
  · rw [h2 15 (by omega) (by omega) (by omega), h15]; rfl
  · exact h4
  · exact h5
  · intro i hi; rw [h1 (c + 1) (by omega) (by omega)]; exact r1 i hi
  · intro i hi; rw [h1 (c + 2) (by omega) (by omega)]; exact r2 i hi
  · intro i hi; rw [h1 (c + 3) (by omega) (by omega)]; exact r3 i hi
  · intro i hi; rw [h1 (c + 4) (by omega) (by omega)]; exact r4 i hi
  · intro i hi; rw [h1 (c + 5) (by omega) (by omega)]; exact r5 i hi
  · intro i hi; rw [h1 (c + 6) (by omega) (by omega)]; exact r6 i hi
  · intro i hi; rw [h1 (c + 7) (by omega) (by omega)]; exact r7 i hi
  · exact h6
abbrev bt_frm (c : Nat) (M M' : bt_M) : Prop := ∀ x : Nat, x ≠ c → x ≠ c + 8 → M' x = M x
def bt_CX4_driveOne : bt_C := [(105, 1, 4, sX4_comers), (109, 1, 4, sX4_minutes)]
def sX4_driveOne : bt_Sp := fun as M N K => match as with
  | [.ref c, .int g] => ∃ w g', bt_wc c ∧ bt_cW M c w ∧ w 12 4 < w 12 0 ∧ g = nI g' ∧ g' ≤ 9 ∧ ∀ M', bt_cW M' c (bt_dv w g') → bt_frm c M M' → K (some (.int (nI (bt_mk (bt_cm w (w 12 4) g' (w 11)) (w 12 1))))) M' N
  | _ => False
theorem mX4_driveOne : bt_MT bt_TX4_driveOne bt_FX4 bt_CX4_driveOne 1 4 sX4_driveOne := by
  intro as M N Rt h P hP
  unfold sX4_driveOne at h
  split at h
  · next c0 _ =>
    obtain ⟨c, rfl⟩ : ∃ c' : Nat, c' = c0 := ⟨c0, rfl⟩
    obtain ⟨w, g, hc, hw, hat, rfl, hg, h⟩ := h
    obtain ⟨hf, h8, h9, h10, h11, h12, h13, h14, h15, h16, h17, r1, r2, r3, r4, r5, r6, r7, r8⟩ := id hw
    obtain ⟨f1, f2, f3, f4, f5, f6, f7, f8, f9, f10, f11, f12, f13, f14, f15, f16, f17, f18⟩ := id hf
    have hcb := bt_cm_b1 w (w 12 4) g (w 11)
    have hsum := bt_cm_le w (w 12 4) g (w 11) f18
    have hp1 : bt_b1 (fun k => w 11 k + bt_cm w (w 12 4) g (w 11) k) := hsum
    have hmk : ∀ {f : Nat → Nat}, bt_b1 f → bt_mk f (w 12 1) < 2 ^ 31 := fun {f} hf => by
      have := bt_mk_lt hf (w 12 1)
      have h2 : 2 ^ (w 12 1) ≤ 2 ^ 6 := Nat.pow_le_pow_right (by omega) f2
      omega
    have hor : nI (bt_mk (w 11) (w 12 1)) ||| nI (bt_mk (bt_cm w (w 12 4) g (w 11)) (w 12 1)) = nI (bt_mk (fun k => w 11 k + bt_cm w (w 12 4) g (w 11) k) (w 12 1)) := by
      rw [bt_or (hmk f18) (hmk hcb), bt_mk_or f18 hcb hp1]
      intro k _
      have := hsum k
      have := hcb k
      have := f18 k
      omega
    have loop : ∀ v pc L st M' N', (pc = 26 ∧ st = [] ∧ N' = N ∧ ∃ k, k ≤ w 12 1 ∧ v = w 12 1 - k ∧ L = [some (.ref c), some (.int (nI g)), some (.int (nI (bt_mk (bt_cm w (w 12 4) g (w 11)) (w 12 1)))), some (.int (nI k))] ∧ (∀ x, x ≠ c → x ≠ c + 8 → M' x = M x) ∧ (∀ f, f ≠ 13 → M' c f = M c f) ∧ M' c 13 = nI (bt_mk (fun k => w 11 k + bt_cm w (w 12 4) g (w 11) k) (w 12 1)) ∧ ∀ j, j < w 12 1 → M' (c + 8) j = nI (w 10 j + if j < k then bt_mn w (w 12 4) j (w 11 j + bt_cm w (w 12 4) g (w 11) j) else 0)) → P pc L st M' N' := by
      refine bt_loop rfl hP 60 [26] (fun v pc L st M' N' => (pc = 26 ∧ st = [] ∧ N' = N ∧ ∃ k, k ≤ w 12 1 ∧ v = w 12 1 - k ∧ L = [some (.ref c), some (.int (nI g)), some (.int (nI (bt_mk (bt_cm w (w 12 4) g (w 11)) (w 12 1)))), some (.int (nI k))] ∧ (∀ x, x ≠ c → x ≠ c + 8 → M' x = M x) ∧ (∀ f, f ≠ 13 → M' c f = M c f) ∧ M' c 13 = nI (bt_mk (fun k => w 11 k + bt_cm w (w 12 4) g (w 11) k) (w 12 1)) ∧ ∀ j, j < w 12 1 → M' (c + 8) j = nI (w 10 j + if j < k then bt_mn w (w 12 4) j (w 11 j + bt_cm w (w 12 4) g (w 11) j) else 0))) ?_
      rintro v pc L st M' N' ⟨rfl, rfl, rfl, k, hk, rfl, rfl, q1, q2, q3, q4⟩
      have e12 := (q2 12 (by omega)).trans h12
      have e16 := (q2 16 (by omega)).trans h16
      have e14 := (q2 14 (by omega)).trans h14
      have e17 := (q2 17 (by omega)).trans h17
      have e1 : M' (c + 1) (w 12 4) = nI (w 0 (w 12 4)) := by rw [q1 (c + 1) (by omega) (by omega)]; exact r1 _ hat
      have e7 : ∀ k, k < w 12 1 → M' (c + 7) k = nI (w 9 k) := fun k hk => by rw [q1 (c + 7) (by omega) (by omega)]; exact r7 k hk
      rcases hc with rfl | rfl
      all_goals
        refine ⟨fun q => ?_, fun q => ?_⟩
        · rw [e12, nI_leI (by omega) (by omega)] at q
          refine ⟨_, rfl, w 12 4, e16, by omega, ?_⟩
          rintro _ rfl _ rfl
          refine h _ (bt_dv_cW hw hat ?_ ?_ ?_ ?_ ?_ ?_) ?_
          · intro x z1 z2
            rw [bt_up_n z1, bt_up_n z1]
            exact q1 x z1 z2
          · intro f z1 z2 z3
            rw [bt_up_s, pk_un z2, bt_up_s, pk_un z3]
            exact q2 f z1
          · rw [bt_up_s, pk_un (by omega), bt_up_s, pk_un (by omega)]
            exact q3
          · rw [bt_up_s, pk_us, bt_up_s, pk_un (by omega), e16]
            exact nI_1 _
          · rw [bt_up_s, pk_un (by omega), bt_up_s, pk_us, e17, e1, e14, pk_mul, nI_add]
          · intro j hj
            rw [bt_up_n (by omega), bt_up_n (by omega), q4 j hj, if_pos (by omega)]
          · intro x z1 z2
            rw [bt_up_n z1, bt_up_n z1]
            exact q1 x z1 z2
        · rw [e12, nI_leI (by omega) (by omega)] at q
          have hkm : k < w 12 1 := by omega
          refine ⟨_, rfl, k, rfl, by omega, ?_⟩
          refine ⟨w 12 4, k, w 12 1, (fun k => w 11 k + bt_cm w (w 12 4) g (w 11) k), w 0 (w 12 4), w 9 k, w 12 2, by first | exact Or.inl rfl | exact Or.inr rfl, e16, by omega, rfl, hkm, f2, hp1, q3, e1, e7 k hkm, e14, ?_⟩
          refine ⟨_, rfl, k, rfl, by omega, ?_⟩
          rintro _ rfl
          refine ⟨w 12 1 - (k + 1), by omega, rfl, rfl, rfl, k + 1, by omega, rfl, by rw [← nI_1], ?_, ?_, ?_, ?_⟩
          · intro x z1 z2
            rw [bt_up_n z2]
            exact q1 x z1 z2
          · intro f z1
            rw [bt_up_n (by omega)]
            exact q2 f z1
          · rw [bt_up_n (by omega)]
            exact q3
          · intro j hj
            rw [bt_up_s]
            by_cases hjk : j = k
            · subst hjk
              rw [pk_us, q4 j hj, if_neg (Nat.lt_irrefl j), Nat.add_zero, nI_add, if_pos (Nat.lt_succ_self j)]
              rfl
            · rw [pk_un hjk, q4 j hj]
              by_cases hl : j < k
              · rw [if_pos hl, if_pos (by omega)]
              · rw [if_neg hl, if_neg (by omega)]
    rcases hc with rfl | rfl
    all_goals
      refine bt_go rfl hP 60 [26] P (fun _ _ _ _ _ h => h) ?_
      refine ⟨w, w 12 4, g, w 11, by first | exact Or.inl rfl | exact Or.inr rfl, hw, h16, hat, rfl, hg, f18, h13, ?_⟩
      rintro _ rfl
      refine loop _ _ _ _ _ _ ⟨rfl, rfl, rfl, 0, Nat.zero_le _, rfl, rfl, ?_, ?_, ?_, ?_⟩
      · intro x z1 z2
        rw [bt_up_n z1]
      · intro f z1
        rw [bt_up_s, pk_un z1]
      · rw [bt_up_s, pk_us, h13, hor]
      · intro j hj
        rw [bt_up_n (by omega), if_neg (by omega), Nat.add_zero]
        exact r8 j hj
  · exact False.elim h
end
section
/-! THE CLASS: World, the rest -/
def bt_sumk (w : bt_W) : Nat → Nat
  | 0 => 0
  | k + 1 => bt_sumk w k + w 10 k
theorem bt_sumk_le {w : bt_W} (hf : bt_wf w) : ∀ k, bt_sumk w k ≤ 648 * k
  | 0 => Nat.le_refl _
  | k + 1 => by
    have := bt_sumk_le hf k
    have := hf.2.2.2.2.2.2.2.2.2.2.2.2.2.2.2.2.1 k
    have := hf.1
    have := hf.2.2.1
    simp only [bt_sumk]
    omega
/-- the sum of all times of cars -/
def bt_st (w : bt_W) : Nat := bt_sumk w (w 12 1)
def sX4_sumOfTimes : bt_Sp := fun as M N K => match as with
  | [.ref c] => ∃ w, bt_wc c ∧ bt_cW M c w ∧ K (some (.int (nI (bt_st w)))) M N
  | _ => False
theorem mX4_sumOfTimes : bt_MT bt_TX4_sumOfTimes bt_FX4 [] 1 3 sX4_sumOfTimes := by
  intro as M N Rt h P hP
  unfold sX4_sumOfTimes at h
  split at h
  · next c0 =>
    obtain ⟨c, rfl⟩ : ∃ c' : Nat, c' = c0 := ⟨c0, rfl⟩
    obtain ⟨w, hc, hw, h⟩ := h
    obtain ⟨hf, h8, h9, h10, h11, h12, h13, h14, h15, h16, h17, r1, r2, r3, r4, r5, r6, r7, r8⟩ := id hw
    have f2 := hf.2.1
    have loop : ∀ v pc L st M' N', (pc = 4 ∧ st = [] ∧ M' = M ∧ N' = N ∧ ∃ k, k ≤ w 12 1 ∧ v = w 12 1 - k ∧ L = [some (.ref c), some (.int (nI (bt_sumk w k))), some (.int (nI k))]) → P pc L st M' N' := by
      refine bt_loop rfl hP 60 [4] (fun v pc L st M' N' => (pc = 4 ∧ st = [] ∧ M' = M ∧ N' = N ∧ ∃ k, k ≤ w 12 1 ∧ v = w 12 1 - k ∧ L = [some (.ref c), some (.int (nI (bt_sumk w k))), some (.int (nI k))])) ?_
      rintro v pc L st M' N' ⟨rfl, rfl, rfl, rfl, k, hk, rfl, rfl⟩
      rcases hc with rfl | rfl
      all_goals
        refine ⟨fun q => ?_, fun q => ?_⟩
        · rw [h12, nI_leI (by omega) (by omega)] at q
          have : k = w 12 1 := by omega
          subst this
          exact h
        · rw [h12, nI_leI (by omega) (by omega)] at q
          refine ⟨_, rfl, k, rfl, by omega, ?_⟩
          refine ⟨w 12 1 - (k + 1), by omega, rfl, rfl, rfl, rfl, k + 1, by omega, rfl, ?_⟩
          rw [r8 k (by omega), nI_add, ← nI_1 k]
          rfl
    rcases hc with rfl | rfl
    all_goals
      refine bt_go rfl hP 60 [4] P (fun _ _ _ _ _ h => h) ?_
      exact loop _ _ _ _ _ _ ⟨rfl, rfl, rfl, rfl, 0, Nat.zero_le _, rfl, rfl⟩
  · exact False.elim h
/-- all stretches that are left, by their gaps: j of them -/
def bt_dn (w : bt_W) (gf : Nat → Nat) : Nat → bt_W
  | 0 => w
  | j + 1 => bt_dv (bt_dn w gf j) (gf (w 12 4 + j))
theorem bt_dn_12 (w : bt_W) (gf : Nat → Nat) : ∀ j, (bt_dn w gf j) 12 4 = w 12 4 + j ∧ (∀ k, k ≠ 4 → k ≠ 5 → (bt_dn w gf j) 12 k = w 12 k) ∧ (∀ f, f < 10 → (bt_dn w gf j) f = w f)
  | 0 => ⟨rfl, fun _ _ _ => rfl, fun _ _ => rfl⟩
  | j + 1 => by
    obtain ⟨h1, h2, h3⟩ := bt_dn_12 w gf j
    refine ⟨?_, fun k k4 k5 => ?_, fun f hf => ?_⟩
    · simp [bt_dn, bt_dv, h1]; omega
    · simp [bt_dn, bt_dv, k4, k5, h2 k k4 k5]
    · funext k
      simp [bt_dn, bt_dv, show f ≠ 10 by omega, show f ≠ 11 by omega, show f ≠ 12 by omega, h3 f hf]
theorem bt_dn_wf {w : bt_W} (gf : Nat → Nat) (h : bt_wf w) : ∀ j, w 12 4 + j ≤ w 12 0 → bt_wf (bt_dn w gf j)
  | 0, _ => h
  | j + 1, hj => by
    have ih := bt_dn_wf gf h j (by omega)
    obtain ⟨h1, h2, h3⟩ := bt_dn_12 w gf j
    exact bt_dv_wf ih (by rw [h1, h2 0 (by omega) (by omega)]; omega)
/-- at the end, by gaps as told -/
def bt_de (w : bt_W) : bt_W := bt_dn w (w 2) (w 12 0 - w 12 4)
def bt_CX4_driveToEnd : bt_C := [(112, 1, 2, sX4_driveOne), (115, 1, 1, sX4_sumOfTimes)]
def sX4_driveToEnd : bt_Sp := fun as M N K => match as with
  | [.ref c] => ∃ w, bt_wc c ∧ bt_cW M c w ∧ ∀ M', bt_cW M' c (bt_de w) → bt_frm c M M' → K (some (.int (nI (bt_st (bt_de w))))) M' N
  | _ => False
theorem mX4_driveToEnd : bt_MT bt_TX4_driveToEnd bt_FX4 bt_CX4_driveToEnd 1 2 sX4_driveToEnd := by
  intro as M N Rt h P hP
  unfold sX4_driveToEnd at h
  split at h
  · next c0 =>
    obtain ⟨c, rfl⟩ : ∃ c' : Nat, c' = c0 := ⟨c0, rfl⟩
    obtain ⟨w, hc, hw, h⟩ := h
    have hf := hw.1
    have f1 := hf.1
    have f3 := hf.2.2.1
    have loop : ∀ v pc L st M' N', (pc = 5 ∧ st = [] ∧ N' = N ∧ ∃ j, w 12 4 + j ≤ w 12 0 ∧ v = w 12 0 - (w 12 4 + j) ∧ L = [some (.ref c), some (.int (nI (w 12 4 + j)))] ∧ bt_cW M' c (bt_dn w (w 2) j) ∧ ∀ x, x ≠ c → x ≠ c + 8 → M' x = M x) → P pc L st M' N' := by
      refine bt_loop rfl hP 60 [5] (fun v pc L st M' N' => (pc = 5 ∧ st = [] ∧ N' = N ∧ ∃ j, w 12 4 + j ≤ w 12 0 ∧ v = w 12 0 - (w 12 4 + j) ∧ L = [some (.ref c), some (.int (nI (w 12 4 + j)))] ∧ bt_cW M' c (bt_dn w (w 2) j) ∧ ∀ x, x ≠ c → x ≠ c + 8 → M' x = M x)) ?_
      rintro v pc L st M' N' ⟨rfl, rfl, rfl, j, hj, rfl, rfl, hw', hfr⟩
      obtain ⟨d1, d2, d3⟩ := bt_dn_12 w (w 2) j
      have h8 := hw'.2.1
      rw [d2 0 (by omega) (by omega)] at h8
      have hgap := hw'.2.2.2.2.2.2.2.2.2.2.2.2.2.1
      rw [d2 0 (by omega) (by omega), d3 2 (by omega)] at hgap
      have hg9 := hf.2.2.2.2.2.2.2.2.1
      rcases hc with rfl | rfl
      all_goals
        refine ⟨fun q => ?_, fun q => ?_⟩
        · rw [h8, nI_leI (by omega) (by omega)] at q
          have hj2 : j = w 12 0 - w 12 4 := by omega
          subst hj2
          exact ⟨_, by first | exact Or.inl rfl | exact Or.inr rfl, hw', h M' hw' hfr⟩
        · rw [h8, nI_leI (by omega) (by omega)] at q
          refine ⟨_, rfl, w 12 4 + j, rfl, by omega, ?_⟩
          refine ⟨_, w 2 (w 12 4 + j), by first | exact Or.inl rfl | exact Or.inr rfl, hw', ?_, hgap _ (by omega), hg9 _, ?_⟩
          · rw [d1, d2 0 (by omega) (by omega)]; omega
          · intro M2 hw2 hfr2
            refine ⟨w 12 0 - (w 12 4 + (j + 1)), by omega, rfl, rfl, rfl, j + 1, by omega, rfl, ?_, hw2, ?_⟩
            · rw [nI_1, Nat.add_assoc]
            · intro x z1 z2
              rw [hfr2 x z1 z2]
              exact hfr x z1 z2
    have h16 := hw.2.2.2.2.2.2.2.2.2.1
    rcases hc with rfl | rfl
    all_goals
      refine bt_go rfl hP 60 [5] P (fun _ _ _ _ _ h => h) ?_
      refine loop _ _ _ _ _ _ ⟨rfl, rfl, rfl, 0, by omega, rfl, ?_, hw, fun _ _ _ => rfl⟩
      rw [h16]
      rfl
  · exact False.elim h
def sX4_allHaveCome : bt_Sp := fun as M N K => match as with
  | [.ref c] => ∃ w, bt_wc c ∧ bt_cW M c w ∧ K (some (.int (if w 12 0 ≤ w 12 4 then 1 else 0))) M N
  | _ => False
theorem mX4_allHaveCome : bt_MT bt_TX4_allHaveCome bt_FX4 [] 2 1 sX4_allHaveCome := by
  intro as M N Rt h P hP
  unfold sX4_allHaveCome at h
  split at h
  · obtain ⟨w, hc, hw, h⟩ := h
    have f1 := hw.1.1
    have f3 := hw.1.2.2.1
    have h8 := hw.2.1
    have h16 := hw.2.2.2.2.2.2.2.2.2.1
    rcases hc with rfl | rfl
    all_goals
      refine bt_go0 rfl hP 60 ?_
      refine ⟨fun q => ?_, fun q => ?_⟩
      · rw [h8, h16, nI_ltI (by omega) (by omega)] at q
        rw [if_neg (by omega)] at h
        exact ⟨Or.inl rfl, h⟩
      · rw [h8, h16, nI_ltI (by omega) (by omega)] at q
        rw [if_pos (by omega)] at h
        exact ⟨Or.inr rfl, h⟩
  · exact False.elim h
theorem bt_sl0 : ∀ n, n < 9 → ∀ a, a < 9 → a ≤ n → ((1 : Int32) <<< (nI n &&& 31)) - ((1 : Int32) <<< (nI a &&& 31)) = nI (2 ^ n - 2 ^ a) := by decide +kernel
def sX4_stretchesLeft : bt_Sp := fun as M N K => match as with
  | [.ref c] => ∃ w, bt_wc c ∧ bt_cW M c w ∧ K (some (.int (nI (2 ^ (w 12 0) - 2 ^ (w 12 4))))) M N
  | _ => False
theorem mX4_stretchesLeft : bt_MT bt_TX4_stretchesLeft bt_FX4 [] 1 1 sX4_stretchesLeft := by
  intro as M N Rt h P hP
  unfold sX4_stretchesLeft at h
  split at h
  · obtain ⟨w, hc, hw, h⟩ := h
    have f1 := hw.1.1
    have f3 := hw.1.2.2.1
    have h8 := hw.2.1
    have h16 := hw.2.2.2.2.2.2.2.2.2.1
    rw [← bt_sl0 _ (by omega) _ (by omega) f3, ← h8, ← h16] at h
    rcases hc with rfl | rfl <;> exact bt_go0 rfl hP 60 h
  · exact False.elim h
/-- the miles of stretches a, a + 1 .. -/
def bt_ml (w : bt_W) (a : Nat) : Nat → Nat
  | 0 => 0
  | j + 1 => bt_ml w a j + w 0 (a + j)
def sX4_milesLeft : bt_Sp := fun as M N K => match as with
  | [.ref c] => ∃ w, bt_wc c ∧ bt_cW M c w ∧ K (some (.int (nI (bt_ml w (w 12 4) (w 12 0 - w 12 4))))) M N
  | _ => False
theorem mX4_milesLeft : bt_MT bt_TX4_milesLeft bt_FX4 [] 1 3 sX4_milesLeft := by
  intro as M N Rt h P hP
  unfold sX4_milesLeft at h
  split at h
  · next c0 =>
    obtain ⟨c, rfl⟩ : ∃ c' : Nat, c' = c0 := ⟨c0, rfl⟩
    obtain ⟨w, hc, hw, h⟩ := h
    obtain ⟨hf, h8, h9, h10, h11, h12, h13, h14, h15, h16, h17, r1, r2, r3, r4, r5, r6, r7, r8⟩ := id hw
    have f1 := hf.1
    have f3 := hf.2.2.1
    have loop : ∀ v pc L st M' N', (pc = 7 ∧ st = [] ∧ M' = M ∧ N' = N ∧ ∃ j, w 12 4 + j ≤ w 12 0 ∧ v = w 12 0 - (w 12 4 + j) ∧ L = [some (.ref c), some (.int (nI (bt_ml w (w 12 4) j))), some (.int (nI (w 12 4 + j)))]) → P pc L st M' N' := by
      refine bt_loop rfl hP 60 [7] (fun v pc L st M' N' => (pc = 7 ∧ st = [] ∧ M' = M ∧ N' = N ∧ ∃ j, w 12 4 + j ≤ w 12 0 ∧ v = w 12 0 - (w 12 4 + j) ∧ L = [some (.ref c), some (.int (nI (bt_ml w (w 12 4) j))), some (.int (nI (w 12 4 + j)))])) ?_
      rintro v pc L st M' N' ⟨rfl, rfl, rfl, rfl, j, hj, rfl, rfl⟩
      rcases hc with rfl | rfl
      all_goals
        refine ⟨fun q => ?_, fun q => ?_⟩
        · rw [h8, nI_leI (by omega) (by omega)] at q
          have hj2 : j = w 12 0 - w 12 4 := by omega
          subst hj2
          exact h
        · rw [h8, nI_leI (by omega) (by omega)] at q
          refine ⟨_, rfl, w 12 4 + j, rfl, by omega, ?_⟩
          refine ⟨w 12 0 - (w 12 4 + (j + 1)), by omega, rfl, rfl, rfl, rfl, j + 1, by omega, rfl, ?_⟩
          rw [r1 _ (by omega), nI_add, nI_1, Nat.add_assoc]
          rfl
    rcases hc with rfl | rfl
    all_goals
      refine bt_go rfl hP 60 [7] P (fun _ _ _ _ _ h => h) ?_
      refine loop _ _ _ _ _ _ ⟨rfl, rfl, rfl, rfl, 0, by omega, rfl, ?_⟩
      rw [h16]
      rfl
  · exact False.elim h
end
section
/-! THE CLASS: World, copies -/
def bt_tf (d s : Nat) : Prop := (d = 11 ∧ s = 2) ∨ (d = 2 ∧ s = 11) ∨ (d = 22 ∧ s = 2) ∨ (d = 31 ∧ s = 2) ∨ (d = 2 ∧ s = 22) ∨ (d = 2 ∧ s = 31)
theorem bt_cW_copy {M M' : bt_M} {d s : Nat} {w : bt_W} (hw : bt_cW M s w) (h1 : ∀ f, 8 ≤ f → f ≤ 17 → M' d f = M s f) (h2 : ∀ r, 1 ≤ r → r ≤ 4 → ∀ j, j < 8 → M' (d + r) j = M (s + r) j) (h3 : ∀ r, 5 ≤ r → r ≤ 8 → ∀ j, j < 6 → M' (d + r) j = M (s + r) j) : bt_cW M' d w := by
  obtain ⟨hf, g8, g9, g10, g11, g12, g13, g14, g15, g16, g17, r1, r2, r3, r4, r5, r6, r7, r8⟩ := id hw
  have f1 := hf.1
  have f2 := hf.2.1
  refine ⟨hf, ?_, ?_, ?_, ?_, ?_, ?_, ?_, ?_, ?_, ?_, ?_, ?_, ?_, ?_, ?_, ?_, ?_, ?_⟩
  · rw [h1 8 (by omega) (by omega)]; exact g8
  · rw [h1 9 (by omega) (by omega)]; exact g9
  · rw [h1 10 (by omega) (by omega)]; exact g10
  · rw [h1 11 (by omega) (by omega)]; exact g11
  · rw [h1 12 (by omega) (by omega)]; exact g12
  · rw [h1 13 (by omega) (by omega)]; exact g13
  · rw [h1 14 (by omega) (by omega)]; exact g14
  · rw [h1 15 (by omega) (by omega)]; exact g15
  · rw [h1 16 (by omega) (by omega)]; exact g16
  · rw [h1 17 (by omega) (by omega)]; exact g17
  · intro i hi; rw [h2 1 (by omega) (by omega) i (by omega)]; exact r1 i hi
  · intro i hi; rw [h2 2 (by omega) (by omega) i (by omega)]; exact r2 i hi
  · intro i hi; rw [h2 3 (by omega) (by omega) i (by omega)]; exact r3 i hi
  · intro i hi; rw [h2 4 (by omega) (by omega) i (by omega)]; exact r4 i hi
  · intro i hi; rw [h3 5 (by omega) (by omega) i (by omega)]; exact r5 i hi
  · intro i hi; rw [h3 6 (by omega) (by omega) i (by omega)]; exact r6 i hi
  · intro i hi; rw [h3 7 (by omega) (by omega) i (by omega)]; exact r7 i hi
  · intro i hi; rw [h3 8 (by omega) (by omega) i (by omega)]; exact r8 i hi
abbrev bt_out (d : Nat) (M M' : bt_M) : Prop := ∀ x : Nat, (x < d ∨ d + 8 < x) → M' x = M x
def bt_CX4_takeFrom : bt_C := [(67, 0, 5, sArrcopyI)]
def sX4_takeFrom : bt_Sp := fun as M N K => match as with
  | [.ref d, .ref s] => ∃ w, bt_tf d s ∧ bt_cW M s w ∧ ∀ M', bt_cW M' d w → bt_out d M M' → K none M' N
  | _ => False
theorem bt_cpy0 {α : Type} {f g : Nat → α} {n j : Nat} (h : j < n) : va_cpy f g 0 0 n j = f j := by
  rw [pk_cpy_in (Nat.zero_le _) (by omega)]
  simp
set_option maxHeartbeats 4000000 in
set_option maxRecDepth 100000 in
theorem mX4_takeFrom : bt_MT bt_TX4_takeFrom bt_FX4 bt_CX4_takeFrom 0 2 sX4_takeFrom := by
  intro as M N Rt h P hP
  unfold sX4_takeFrom at h
  split at h
  · next d0 s0 =>
    obtain ⟨d, rfl⟩ : ∃ c' : Nat, c' = d0 := ⟨d0, rfl⟩
    obtain ⟨s, rfl⟩ : ∃ c' : Nat, c' = s0 := ⟨s0, rfl⟩
    obtain ⟨w, hc, hw, h⟩ := h
    rcases hc with ⟨rfl, rfl⟩ | ⟨rfl, rfl⟩ | ⟨rfl, rfl⟩ | ⟨rfl, rfl⟩ | ⟨rfl, rfl⟩ | ⟨rfl, rfl⟩
    all_goals
      refine bt_go0 rfl hP 120 ?_
      intro M1 e1 M2 e2 M3 e3 M4 e4 M5 e5 M6 e6 M7 e7 M8 e8 M9 e9 M10 e10
      refine ⟨_, _, 8, rfl, rfl, rfl, rfl, rfl, by omega, by omega, fun N1 d1 => ?_⟩
      refine ⟨_, _, 8, rfl, rfl, rfl, rfl, rfl, by omega, by omega, fun N2 d2 => ?_⟩
      refine ⟨_, _, 8, rfl, rfl, rfl, rfl, rfl, by omega, by omega, fun N3 d3 => ?_⟩
      refine ⟨_, _, 8, rfl, rfl, rfl, rfl, rfl, by omega, by omega, fun N4 d4 => ?_⟩
      refine ⟨_, _, 6, rfl, rfl, rfl, rfl, rfl, by omega, by omega, fun N5 d5 => ?_⟩
      refine ⟨_, _, 6, rfl, rfl, rfl, rfl, rfl, by omega, by omega, fun N6 d6 => ?_⟩
      refine ⟨_, _, 6, rfl, rfl, rfl, rfl, rfl, by omega, by omega, fun N7 d7 => ?_⟩
      refine ⟨_, _, 6, rfl, rfl, rfl, rfl, rfl, by omega, by omega, fun N8 d8 => ?_⟩
      have hM : ∀ x, x ≠ _ → M10 x = M x := fun x z => by
        rw [e10, bt_up_n z, e9, bt_up_n z, e8, bt_up_n z, e7, bt_up_n z, e6, bt_up_n z, e5, bt_up_n z, e4, bt_up_n z, e3, bt_up_n z, e2, bt_up_n z, e1, bt_up_n z]
      refine h _ (bt_cW_copy hw ?_ ?_ ?_) ?_
      · intro f z1 z2
        rw [d8, bt_up_n (by omega), d7, bt_up_n (by omega), d6, bt_up_n (by omega), d5, bt_up_n (by omega), d4, bt_up_n (by omega), d3, bt_up_n (by omega), d2, bt_up_n (by omega), d1, bt_up_n (by omega)]
        rcases (show f = 8 ∨ f = 9 ∨ f = 10 ∨ f = 11 ∨ f = 12 ∨ f = 13 ∨ f = 14 ∨ f = 15 ∨ f = 16 ∨ f = 17 by omega) with rfl | rfl | rfl | rfl | rfl | rfl | rfl | rfl | rfl | rfl <;> simp [e1, e2, e3, e4, e5, e6, e7, e8, e9, e10, va_up, upd]
      · intro r z1 z2 j z3
        rcases (show r = 1 ∨ r = 2 ∨ r = 3 ∨ r = 4 by omega) with rfl | rfl | rfl | rfl
        · rw [d8, bt_up_n (by omega), d7, bt_up_n (by omega), d6, bt_up_n (by omega), d5, bt_up_n (by omega), d4, bt_up_n (by omega), d3, bt_up_n (by omega), d2, bt_up_n (by omega), d1, bt_up_s, bt_cpy0 z3, hM _ (by omega)]
        · rw [d8, bt_up_n (by omega), d7, bt_up_n (by omega), d6, bt_up_n (by omega), d5, bt_up_n (by omega), d4, bt_up_n (by omega), d3, bt_up_n (by omega), d2, bt_up_s, bt_cpy0 z3, d1, bt_up_n (by omega), hM _ (by omega)]
        · rw [d8, bt_up_n (by omega), d7, bt_up_n (by omega), d6, bt_up_n (by omega), d5, bt_up_n (by omega), d4, bt_up_n (by omega), d3, bt_up_s, bt_cpy0 z3, d2, bt_up_n (by omega), d1, bt_up_n (by omega), hM _ (by omega)]
        · rw [d8, bt_up_n (by omega), d7, bt_up_n (by omega), d6, bt_up_n (by omega), d5, bt_up_n (by omega), d4, bt_up_s, bt_cpy0 z3, d3, bt_up_n (by omega), d2, bt_up_n (by omega), d1, bt_up_n (by omega), hM _ (by omega)]
      · intro r z1 z2 j z3
        rcases (show r = 5 ∨ r = 6 ∨ r = 7 ∨ r = 8 by omega) with rfl | rfl | rfl | rfl
        · rw [d8, bt_up_n (by omega), d7, bt_up_n (by omega), d6, bt_up_n (by omega), d5, bt_up_s, bt_cpy0 z3, d4, bt_up_n (by omega), d3, bt_up_n (by omega), d2, bt_up_n (by omega), d1, bt_up_n (by omega), hM _ (by omega)]
        · rw [d8, bt_up_n (by omega), d7, bt_up_n (by omega), d6, bt_up_s, bt_cpy0 z3, d5, bt_up_n (by omega), d4, bt_up_n (by omega), d3, bt_up_n (by omega), d2, bt_up_n (by omega), d1, bt_up_n (by omega), hM _ (by omega)]
        · rw [d8, bt_up_n (by omega), d7, bt_up_s, bt_cpy0 z3, d6, bt_up_n (by omega), d5, bt_up_n (by omega), d4, bt_up_n (by omega), d3, bt_up_n (by omega), d2, bt_up_n (by omega), d1, bt_up_n (by omega), hM _ (by omega)]
        · rw [d8, bt_up_s, bt_cpy0 z3, d7, bt_up_n (by omega), d6, bt_up_n (by omega), d5, bt_up_n (by omega), d4, bt_up_n (by omega), d3, bt_up_n (by omega), d2, bt_up_n (by omega), d1, bt_up_n (by omega), hM _ (by omega)]
      · intro x z
        rw [d8, bt_up_n (by omega), d7, bt_up_n (by omega), d6, bt_up_n (by omega), d5, bt_up_n (by omega), d4, bt_up_n (by omega), d3, bt_up_n (by omega), d2, bt_up_n (by omega), d1, bt_up_n (by omega), hM _ (by omega)]
  · exact False.elim h
/-- the first one behind; how many cars there are: none -/
def bt_fbr (w : bt_W) : Nat → Nat → Nat
  | 0, j => j
  | n + 1, j => if w 11 j = 1 then bt_fbr w n (j + 1) else j
def bt_fb (w : bt_W) : Nat := bt_fbr w (w 12 1) 0
theorem bt_fbr_le (w : bt_W) : ∀ n j, bt_fbr w n j ≤ j + n
  | 0, j => by simp [bt_fbr]
  | n + 1, j => by
    have := bt_fbr_le w n (j + 1)
    simp only [bt_fbr]
    split <;> omega
def bt_CX4_firstBehind : bt_C := [(77, 0, 2, sX5_bit)]
def sX4_firstBehind : bt_Sp := fun as M N K => match as with
  | [.ref c] => ∃ w, bt_wc c ∧ bt_cW M c w ∧ K (some (.int (if bt_fb w < w 12 1 then nI (bt_fb w) else -1))) M N
  | _ => False
theorem mX4_firstBehind : bt_MT bt_TX4_firstBehind bt_FX4 bt_CX4_firstBehind 1 2 sX4_firstBehind := by
  intro as M N Rt h P hP
  unfold sX4_firstBehind at h
  split at h
  · next c0 =>
    obtain ⟨c, rfl⟩ : ∃ c' : Nat, c' = c0 := ⟨c0, rfl⟩
    obtain ⟨w, hc, hw, h⟩ := h
    obtain ⟨hf, h8, h9, h10, h11, h12, h13, h14, h15, h16, h17, r1, r2, r3, r4, r5, r6, r7, r8⟩ := id hw
    have f2 := hf.2.1
    have f18 := hf.2.2.2.2.2.2.2.2.2.2.2.2.2.2.2.2.2
    have loop : ∀ v pc L st M' N', (pc = 2 ∧ st = [] ∧ M' = M ∧ N' = N ∧ ∃ k, k ≤ w 12 1 ∧ v = w 12 1 - k ∧ bt_fb w = bt_fbr w (w 12 1 - k) k ∧ L = [some (.ref c), some (.int (nI k))]) → P pc L st M' N' := by
      refine bt_loop rfl hP 60 [2] (fun v pc L st M' N' => (pc = 2 ∧ st = [] ∧ M' = M ∧ N' = N ∧ ∃ k, k ≤ w 12 1 ∧ v = w 12 1 - k ∧ bt_fb w = bt_fbr w (w 12 1 - k) k ∧ L = [some (.ref c), some (.int (nI k))])) ?_
      rintro v pc L st M' N' ⟨rfl, rfl, rfl, rfl, k, hk, rfl, hfb, rfl⟩
      have g1 := f18 k
      rcases hc with rfl | rfl
      all_goals
        refine ⟨fun q => ?_, fun q => ?_⟩
        · rw [h12, nI_leI (by omega) (by omega)] at q
          have hk2 : k = w 12 1 := by omega
          rw [hk2, Nat.sub_self] at hfb
          rw [if_neg (by rw [hfb]; exact Nat.lt_irrefl _)] at h
          exact h
        · rw [h12, nI_leI (by omega) (by omega)] at q
          obtain ⟨n, hn⟩ : ∃ n, w 12 1 - k = n + 1 := ⟨w 12 1 - k - 1, by omega⟩
          rw [hn] at hfb
          refine ⟨fun q2 => ?_, fun q2 => ?_⟩
          · rw [h13, bt_bitN f18 (by omega) (by omega), if_pos (by omega), bt_n0 (by omega)] at q2
            rw [bt_fbr, if_pos (by omega)] at hfb
            refine ⟨w 12 1 - (k + 1), by omega, rfl, rfl, rfl, rfl, k + 1, by omega, rfl, ?_, by rw [← nI_1]⟩
            rw [hfb]
            congr 1
            omega
          · rw [h13, bt_bitN f18 (by omega) (by omega), if_pos (by omega), bt_n0 (by omega)] at q2
            rw [bt_fbr, if_neg (by omega)] at hfb
            rw [hfb, if_pos (by omega)] at h
            exact h
    rcases hc with rfl | rfl
    all_goals
      refine bt_go rfl hP 60 [2] P (fun _ _ _ _ _ h => h) ?_
      exact loop _ _ _ _ _ _ ⟨rfl, rfl, rfl, rfl, 0, by omega, rfl, rfl, rfl⟩
  · exact False.elim h
theorem bt_mk_mod {f : Nat → Nat} (h : bt_b1 f) {k : Nat} : ∀ d, bt_mk f (k + d) % 2 ^ k = bt_mk f k
  | 0 => Nat.mod_eq_of_lt (bt_mk_lt h k)
  | d + 1 => by
    rw [← Nat.add_assoc]
    simp only [bt_mk]
    rw [Nat.pow_add, ← Nat.mul_assoc, Nat.mul_comm (f (k + d)) (2 ^ k), Nat.mul_assoc, Nat.add_mul_mod_self_left, bt_mk_mod h d]
theorem bt_low : ∀ k, k < 9 → (((1 : Int32) <<< (nI k &&& 31)) - 1).toBitVec.toNat = 2 ^ k - 1 := by decide +kernel
def bt_CX4_behindAheadOf : bt_C := [(77, 0, 2, sX5_bit), (81, 1, 2, sX4_behind), (85, 0, 1, sJ6_bitCount_0f7a4)]
def sX4_behindAheadOf : bt_Sp := fun as M N K => match as with
  | [.ref c, .int k] => ∃ w k', bt_wc c ∧ bt_cW M c w ∧ k = nI k' ∧ k' < w 12 1 ∧ K (some (.int (nI (if w 11 k' = 1 then 0 else bt_ct1 (fun j => 1 - w 11 j) k')))) M N
  | _ => False
theorem mX4_behindAheadOf : bt_MT bt_TX4_behindAheadOf bt_FX4 bt_CX4_behindAheadOf 1 2 sX4_behindAheadOf := by
  intro as M N Rt h P hP
  unfold sX4_behindAheadOf at h
  split at h
  · obtain ⟨w, k, hc, hw, rfl, hk, h⟩ := h
    obtain ⟨hf, h8, h9, h10, h11, h12, h13, h14, h15, h16, h17, r1, r2, r3, r4, r5, r6, r7, r8⟩ := id hw
    have f2 := hf.2.1
    have f18 := hf.2.2.2.2.2.2.2.2.2.2.2.2.2.2.2.2.2
    have g1 := f18 k
    have hlt := bt_mk_lt f18 (w 12 1)
    have e1 : nI (bt_mk (w 11) (w 12 1)) >>> (nI k &&& 31) &&& 1 = nI (w 11 k) := by
      rw [bt_bitN f18 (by omega) (by omega), if_pos (by omega)]
    have n1 := bt_n1 (a := w 11 k) (by omega)
    have e2 : nI (2 ^ (w 12 1) - 1 - bt_mk (w 11) (w 12 1)) &&& (((1 : Int32) <<< (nI k &&& 31)) - 1) = nI (bt_mk (fun j => 1 - w 11 j) k) := by
      have h2 : 2 ^ (w 12 1) ≤ 2 ^ 6 := Nat.pow_le_pow_right (by omega) f2
      rw [pk_andN (by omega) k (bt_low k (by omega)), bt_mk_not f18, show w 12 1 = k + (w 12 1 - k) by omega, bt_mk_mod bt_b1_not]
    rcases hc with rfl | rfl
    all_goals
      refine bt_go0 rfl hP 60 ?_
      refine ⟨fun q => ?_, fun q => ?_⟩
      · rw [h13, e1, n1] at q
        rw [if_neg q] at h
        refine ⟨w 12 1, bt_mk (w 11) (w 12 1), by first | exact Or.inl rfl | exact Or.inr rfl, h12, f2, h13, hlt, ?_⟩
        rw [← bt_bc_mk bt_b1_not (by omega), ← e2] at h
        exact h
      · rw [h13, e1, n1] at q
        rw [if_pos q] at h
        exact h
  · exact False.elim h
/-- an empty world -/
def bt_w0c (M M' : bt_M) (c : Nat) : Prop := (∀ f, 8 ≤ f → f ≤ 17 → f ≠ 14 → M' c f = 0) ∧ M' c 14 = 5 ∧ (∀ i, i < 8 → M' (c + 4) i = 10) ∧ (∀ k, k < 6 → M' (c + 8) k = 0) ∧ ∀ x, x ≠ c → x ≠ c + 4 → x ≠ c + 8 → M' x = M x
def sX4_clear : bt_Sp := fun as M N K => match as with
  | [.ref c] => c = 11 ∧ ∀ M', bt_w0c M M' 11 → K none M' N
  | _ => False
set_option maxRecDepth 100000 in
theorem mX4_clear : bt_MT bt_TX4_clear bt_FX4 [] 0 2 sX4_clear := by
  intro as M N Rt h P hP
  unfold sX4_clear at h
  split at h
  · obtain ⟨rfl, h⟩ := h
    have loop2 : ∀ v pc L st M' N', (pc = 74 ∧ st = [] ∧ N' = N ∧ ∃ k, k ≤ 6 ∧ v = 6 - k ∧ L = [some (.ref 11), some (.int (nI k))] ∧ (∀ f, 8 ≤ f → f ≤ 17 → f ≠ 14 → M' 11 f = 0) ∧ M' 11 14 = 5 ∧ (∀ i, i < 8 → M' 15 i = 10) ∧ (∀ j, j < k → M' 19 j = 0) ∧ ∀ x, x ≠ 11 → x ≠ 15 → x ≠ 19 → M' x = M x) → P pc L st M' N' := by
      refine bt_loop rfl hP 60 [74] (fun v pc L st M' N' => (pc = 74 ∧ st = [] ∧ N' = N ∧ ∃ k, k ≤ 6 ∧ v = 6 - k ∧ L = [some (.ref 11), some (.int (nI k))] ∧ (∀ f, 8 ≤ f → f ≤ 17 → f ≠ 14 → M' 11 f = 0) ∧ M' 11 14 = 5 ∧ (∀ i, i < 8 → M' 15 i = 10) ∧ (∀ j, j < k → M' 19 j = 0) ∧ ∀ x, x ≠ 11 → x ≠ 15 → x ≠ 19 → M' x = M x)) ?_
      rintro v pc L st M' N' ⟨rfl, rfl, rfl, k, hk, rfl, rfl, q1, q2, q3, q4, q5⟩
      refine ⟨fun q => ?_, fun q => ?_⟩
      · rw [bt_lit, nI_leI (by omega) (by omega)] at q
        exact h M' ⟨q1, q2, q3, fun j hj => q4 j (by omega), q5⟩
      · rw [bt_lit, nI_leI (by omega) (by omega)] at q
        refine ⟨_, rfl, k, rfl, by omega, ?_⟩
        rintro _ rfl
        refine ⟨6 - (k + 1), by omega, rfl, rfl, rfl, k + 1, by omega, rfl, by rw [← nI_1], ?_, ?_, ?_, ?_, ?_⟩
        · intro f; rw [bt_up_n (by omega)]; exact q1 f
        · rw [bt_up_n (by omega)]; exact q2
        · rw [bt_up_n (by omega)]; exact q3
        · intro j hj
          rw [bt_up_s]
          by_cases hjk : j = k
          · rw [hjk, pk_us]
          · rw [pk_un hjk]; exact q4 j (by omega)
        · intro x z1 z2 z3
          rw [bt_up_n z3]; exact q5 x z1 z2 z3
    have loop1 : ∀ v pc L st M' N', (pc = 52 ∧ st = [] ∧ N' = N ∧ ∃ k, k ≤ 8 ∧ v = 8 - k ∧ L = [some (.ref 11), some (.int (nI k))] ∧ (∀ f, 8 ≤ f → f ≤ 17 → f ≠ 14 → M' 11 f = 0) ∧ M' 11 14 = 5 ∧ (∀ i, i < k → M' 15 i = 10) ∧ ∀ x, x ≠ 11 → x ≠ 15 → M' x = M x) → P pc L st M' N' := by
      refine bt_loopP rfl hP 60 [52, 74] (fun v pc L st M' N' => (pc = 52 ∧ st = [] ∧ N' = N ∧ ∃ k, k ≤ 8 ∧ v = 8 - k ∧ L = [some (.ref 11), some (.int (nI k))] ∧ (∀ f, 8 ≤ f → f ≤ 17 → f ≠ 14 → M' 11 f = 0) ∧ M' 11 14 = 5 ∧ (∀ i, i < k → M' 15 i = 10) ∧ ∀ x, x ≠ 11 → x ≠ 15 → M' x = M x)) ?_
      rintro v pc L st M' N' ⟨rfl, rfl, rfl, k, hk, rfl, rfl, q1, q2, q3, q5⟩
      refine ⟨fun q => ?_, fun q => ?_⟩
      · rw [bt_lit, nI_leI (by omega) (by omega)] at q
        refine Or.inr (loop2 _ _ _ _ _ _ ⟨rfl, rfl, rfl, 0, by omega, rfl, rfl, q1, q2, fun j hj => q3 j (by omega), fun j hj => by omega, fun x z1 z2 z3 => q5 x z1 z2⟩)
      · rw [bt_lit, nI_leI (by omega) (by omega)] at q
        refine ⟨_, rfl, k, rfl, by omega, ?_⟩
        rintro _ rfl
        refine Or.inl ⟨8 - (k + 1), by omega, rfl, rfl, rfl, k + 1, by omega, rfl, by rw [← nI_1], ?_, ?_, ?_, ?_⟩
        · intro f; rw [bt_up_n (by omega)]; exact q1 f
        · rw [bt_up_n (by omega)]; exact q2
        · intro j hj
          rw [bt_up_s]
          by_cases hjk : j = k
          · rw [hjk, pk_us]
          · rw [pk_un hjk]; exact q3 j (by omega)
        · intro x z1 z2
          rw [bt_up_n z2]; exact q5 x z1 z2
    refine bt_go rfl hP 60 [52] P (fun _ _ _ _ _ h => h) ?_
    intro M1 e1 M2 e2 M3 e3 M4 e4 M5 e5 M6 e6 M7 e7 M8 e8 M9 e9 M10 e10
    refine loop1 _ _ _ _ _ _ ⟨rfl, rfl, rfl, 0, by omega, rfl, rfl, ?_, ?_, ?_, ?_⟩
    · intro f z1 z2 z3
      rcases (show f = 8 ∨ f = 9 ∨ f = 10 ∨ f = 11 ∨ f = 12 ∨ f = 13 ∨ f = 15 ∨ f = 16 ∨ f = 17 by omega) with rfl | rfl | rfl | rfl | rfl | rfl | rfl | rfl | rfl <;> simp [e1, e2, e3, e4, e5, e6, e7, e8, e9, e10, va_up, upd]
    · simp [e7, e8, e9, e10, va_up, upd]
    · intro i hi; omega
    · intro x z1 z2
      rw [e10, bt_up_n z1, e9, bt_up_n z1, e8, bt_up_n z1, e7, bt_up_n z1, e6, bt_up_n z1, e5, bt_up_n z1, e4, bt_up_n z1, e3, bt_up_n z1, e2, bt_up_n z1, e1, bt_up_n z1]
  · exact False.elim h
end
section
/-! THE MODEL: small methods -/
def sX6_in : bt_Sp := fun as M N K => match as with
  | [.long v, .long lo, .long hi] => K (some (.int (bt_bi (lo ≤ v ∧ v ≤ hi)))) M N
  | _ => False
theorem mX6_in : bt_MT bt_TX6_in bt_FX6 [] 2 6 sX6_in := by
  intro as M N Rt h P hP
  unfold sX6_in at h
  split at h
  · next v lo hi =>
    refine bt_go0 rfl hP 20 ?_
    refine ⟨fun h1 => ?_, fun h1 => ⟨fun h2 => ?_, fun h2 => ?_⟩⟩
    · refine ⟨Or.inl rfl, ?_⟩
      rw [bt_cmp_lt] at h1
      rw [bt_bi_f (fun q => Int64.not_le.mpr h1 q.1)] at h
      exact h
    · refine ⟨Or.inl rfl, ?_⟩
      rw [bt_cmp_gt] at h2
      rw [bt_bi_f (fun q => Int64.not_le.mpr h2 q.2)] at h
      exact h
    · refine ⟨Or.inr rfl, ?_⟩
      rw [bt_cmp_lt] at h1
      rw [bt_cmp_gt] at h2
      rw [bt_bi_t ⟨Int64.not_lt.mp h1, Int64.not_lt.mp h2⟩] at h
      exact h
  · exact False.elim h
theorem bt_l0 {x : Int32} : (0 : Int64) ≤ x.toInt64 ↔ 0 ≤ x.toInt := by
  rw [Int64.le_iff_toInt_le, Int32.toInt_toInt64, Int64.toInt_zero]
theorem bt_lk {x : Int32} {k : Nat} (h : k < 2 ^ 31) : x.toInt64 ≤ lN k ↔ x.toInt ≤ k := by
  rw [Int64.le_iff_toInt_le, Int32.toInt_toInt64, lN_toInt h]
/-- bounds told in longs -/
theorem bt_inl_last {x : Int32} {n : Nat} (h : n < 2 ^ 31) : ((0 : Int64) ≤ x.toInt64 ∧ x.toInt64 ≤ (nI n - 1).toInt64) ↔ bt_in x n := by
  rw [bt_l0, bt_l_le, Int32.le_iff_toInt_le, bt_nI_sub1 h]
  omega
theorem bt_inl_top {x : Int32} {k : Nat} (h : k < 2 ^ 31) : ((0 : Int64) ≤ x.toInt64 ∧ x.toInt64 ≤ lN k) ↔ bt_in x (k + 1) := by
  rw [bt_l0, bt_lk h]
  omega
def sX6_isPast : bt_Sp := fun as M N K => match as with
  | [.ref c, .int p, .int k] => ∃ p' k' a, c = 67 ∧ p = nI p' ∧ k = nI k' ∧ p' + 58 + 5 * k' + 4 < 540 ∧ M 68 (p' + 58 + 5 * k' + 4) = nI a ∧ a ≤ 1 ∧ K (some (.int (nI a))) M N
  | _ => False
theorem mX6_isPast : bt_MT bt_TX6_isPast bt_FX6 [] 2 3 sX6_isPast := by
  intro as M N Rt h P hP
  unfold sX6_isPast at h
  split at h
  · obtain ⟨p, k, a, rfl, rfl, rfl, hb, ha, ha1, h⟩ := h
    refine bt_go0 rfl hP 30 ?_
    refine ⟨_, rfl, p + 58 + 5 * k + 4, by simp only [bt_lit, pk_mul, nI_add], hb, ?_⟩
    refine ⟨fun q => ⟨Or.inl rfl, ?_⟩, fun q => ⟨Or.inr rfl, ?_⟩⟩
    · rw [ha, bt_n1 (by omega)] at q
      rw [show a = 0 by omega] at h
      exact h
    · rw [ha, bt_n1 (by omega)] at q
      rw [q] at h
      exact h
  · exact False.elim h
/-- the cars of a page that are past -/
def bt_pg (M : bt_M) (p m : Nat) (f : Nat → Nat) : Prop := ∀ k, k < m → M 68 (p + 58 + 5 * k + 4) = nI (f k)
theorem bt_or0 (x : Int32) : x ||| 0 = x := by simp
def bt_CX6_pastOn : bt_C := [(139, 1, 3, sX6_isPast)]
def sX6_pastOn : bt_Sp := fun as M N K => match as with
  | [.ref c, .int p] => ∃ p' m f, c = 67 ∧ p = nI p' ∧ p' ≤ 450 ∧ M 67 2 = nI m ∧ m ≤ 6 ∧ bt_b1 f ∧ bt_pg M p' m f ∧ K (some (.int (nI (bt_mk f m)))) M N
  | _ => False
theorem mX6_pastOn : bt_MT bt_TX6_pastOn bt_FX6 bt_CX6_pastOn 1 4 sX6_pastOn := by
  intro as M N Rt h P hP
  unfold sX6_pastOn at h
  split at h
  · obtain ⟨p, m, f, rfl, rfl, hp, hm, hm6, hf, hpg, h⟩ := h
    have loop : ∀ v pc L st M' N', (pc = 4 ∧ st = [] ∧ M' = M ∧ N' = N ∧ ∃ k, k ≤ m ∧ v = m - k ∧ L = [some (.ref 67), some (.int (nI p)), some (.int (nI (bt_mk f k))), some (.int (nI k))]) → P pc L st M' N' := by
      refine bt_loop rfl hP 60 [4] (fun v pc L st M' N' => (pc = 4 ∧ st = [] ∧ M' = M ∧ N' = N ∧ ∃ k, k ≤ m ∧ v = m - k ∧ L = [some (.ref 67), some (.int (nI p)), some (.int (nI (bt_mk f k))), some (.int (nI k))])) ?_
      rintro v pc L st M' N' ⟨rfl, rfl, rfl, rfl, k, hk, rfl, rfl⟩
      have g1 := hf k
      refine ⟨fun q => ?_, fun q => ?_⟩
      · rw [hm, nI_leI (by omega) (by omega)] at q
        have : k = m := by omega
        subst this
        exact h
      · rw [hm, nI_leI (by omega) (by omega)] at q
        refine ⟨p, k, f k, rfl, rfl, rfl, by omega, hpg k (by omega), g1, ?_⟩
        refine ⟨fun q2 => ?_, fun q2 => ?_⟩
        · rw [bt_n0 (by omega)] at q2
          refine ⟨m - (k + 1), by omega, rfl, rfl, rfl, rfl, k + 1, by omega, rfl, ?_⟩
          rw [bt_or0, ← nI_1]
          simp [bt_mk, q2]
        · rw [bt_n0 (by omega)] at q2
          refine ⟨m - (k + 1), by omega, rfl, rfl, rfl, rfl, k + 1, by omega, rfl, ?_⟩
          rw [bt_or1 k (by omega) _ (bt_mk_lt hf k), ← nI_1]
          simp [bt_mk, show f k = 1 by omega]
    refine bt_go rfl hP 60 [4] P (fun _ _ _ _ _ h => h) ?_
    exact loop _ _ _ _ _ _ ⟨rfl, rfl, rfl, rfl, 0, by omega, rfl, rfl⟩
  · exact False.elim h
def sX6_paceOn : bt_Sp := fun as M N K => match as with
  | [.ref c, .int p] => ∃ p' a, c = 67 ∧ p = nI p' ∧ p' ≤ 450 ∧ M 68 (p' + 56) = nI a - 5 ∧ K (some (.int (nI a))) M N
  | _ => False
theorem bt_m5 (x : Int32) : x - 5 + 5 = x := by
  rw [Int32.sub_add_cancel]
theorem bt_m10 (x : Int32) : x - 10 + 10 = x := by
  rw [Int32.sub_add_cancel]
theorem mX6_paceOn : bt_MT bt_TX6_paceOn bt_FX6 [] 1 2 sX6_paceOn := by
  intro as M N Rt h P hP
  unfold sX6_paceOn at h
  split at h
  · obtain ⟨p, a, rfl, rfl, hp, ha, h⟩ := h
    refine bt_go0 rfl hP 30 ?_
    refine ⟨_, rfl, p + 56, by simp only [bt_lit, nI_add], by omega, ?_⟩
    rw [← bt_m5 (nI a), ← ha] at h
    exact h
  · exact False.elim h
def bt_CX6_aheadOf : bt_C := [(139, 1, 3, sX6_isPast)]
def sX6_aheadOf : bt_Sp := fun as M N K => match as with
  | [.ref c, .int p, .int k] => ∃ p' k' f, c = 67 ∧ p = nI p' ∧ p' ≤ 450 ∧ k = nI k' ∧ k' < 6 ∧ bt_b1 f ∧ bt_pg M p' (k' + 1) f ∧ K (some (.int (nI (if f k' = 1 then 0 else bt_ct1 (fun j => 1 - f j) k')))) M N
  | _ => False
theorem mX6_aheadOf : bt_MT bt_TX6_aheadOf bt_FX6 bt_CX6_aheadOf 1 5 sX6_aheadOf := by
  intro as M N Rt h P hP
  unfold sX6_aheadOf at h
  split at h
  · obtain ⟨p, k, f, rfl, rfl, hp, rfl, hk, hf, hpg, h⟩ := h
    have loop : ∀ v pc L st M' N', (pc = 5 ∧ st = [] ∧ M' = M ∧ N' = N ∧ ∃ j, j ≤ k ∧ v = k - j ∧ L = [some (.ref 67), some (.int (nI p)), some (.int (nI k)), some (.int (nI (bt_ct1 (fun j => 1 - f j) j))), some (.int (nI j))]) → P pc L st M' N' := by
      refine bt_loop rfl hP 60 [5] (fun v pc L st M' N' => (pc = 5 ∧ st = [] ∧ M' = M ∧ N' = N ∧ ∃ j, j ≤ k ∧ v = k - j ∧ L = [some (.ref 67), some (.int (nI p)), some (.int (nI k)), some (.int (nI (bt_ct1 (fun j => 1 - f j) j))), some (.int (nI j))])) ?_
      rintro v pc L st M' N' ⟨rfl, rfl, rfl, rfl, j, hj, rfl, rfl⟩
      have g1 := hf j
      have g2 := hf k
      refine ⟨fun q => ?_, fun q => ?_⟩
      · rw [nI_leI (by omega) (by omega)] at q
        have : j = k := by omega
        subst this
        refine ⟨p, j, f j, rfl, rfl, rfl, by omega, hpg j (by omega), g1, ?_⟩
        refine ⟨fun q2 => ?_, fun q2 => ?_⟩
        · rw [bt_n0 (by omega)] at q2
          rw [if_neg (by omega)] at h
          exact h
        · rw [bt_n0 (by omega)] at q2
          rw [if_pos (by omega)] at h
          exact h
      · rw [nI_leI (by omega) (by omega)] at q
        refine ⟨p, j, f j, rfl, rfl, rfl, by omega, hpg j (by omega), g1, ?_⟩
        refine ⟨fun q2 => ?_, fun q2 => ?_⟩
        · rw [bt_n0 (by omega)] at q2
          refine ⟨k - (j + 1), by omega, rfl, rfl, rfl, rfl, j + 1, by omega, rfl, ?_⟩
          rw [nI_1, nI_1]
          simp [bt_ct1, q2]
        · rw [bt_n0 (by omega)] at q2
          refine ⟨k - (j + 1), by omega, rfl, rfl, rfl, rfl, j + 1, by omega, rfl, ?_⟩
          rw [nI_1]
          simp [bt_ct1, show f j = 1 by omega]
    refine bt_go rfl hP 60 [5] P (fun _ _ _ _ _ h => h) ?_
    exact loop _ _ _ _ _ _ ⟨rfl, rfl, rfl, rfl, 0, by omega, rfl, rfl⟩
  · exact False.elim h
def sX6_useOn : bt_Sp := fun as M N K => match as with
  | [.ref c, .int p, .int i, .int g] => ∃ p' i' g' a b d, c = 67 ∧ p = nI p' ∧ p' ≤ 450 ∧ i = nI i' ∧ i' < 8 ∧ g = nI g' ∧ g' ≤ 9 ∧ M 68 (p' + 7 * i' + 6) = nI a ∧ a ≤ 1 ∧ M 68 (p' + 7 * i' + 1) = nI b ∧ b ≤ 9 ∧ M 68 (p' + 7 * i' + 4) = nI d ∧ d ≤ 1 ∧ K (some (.int (nI (if a = 1 then 9 else min g' (b - d))))) M N
  | _ => False
theorem bt_sgn : ∀ b, b < 10 → ∀ d, d < 2 → (0 ≤ nI b - nI d ↔ d ≤ b) ∧ (d ≤ b → nI b - nI d = nI (b - d)) := by decide +kernel
theorem mX6_useOn : bt_MT bt_TX6_useOn bt_FX6 [] 1 6 sX6_useOn := by
  intro as M N Rt h P hP
  unfold sX6_useOn at h
  split at h
  · obtain ⟨p, i, g, a, b, d, rfl, rfl, hp, rfl, hi, rfl, hg, ha, ha1, hb, hb9, hd, hd1, h⟩ := h
    obtain ⟨s1, s2⟩ := bt_sgn b (by omega) d (by omega)
    refine bt_go0 rfl hP 60 ?_
    refine ⟨_, rfl, p + 7 * i + 6, by simp only [bt_lit, pk_mul, nI_add], by omega, ?_⟩
    refine ⟨fun q => ?_, fun q => ?_⟩
    · rw [ha, bt_n1 (by omega)] at q
      rw [if_neg q] at h
      refine ⟨_, rfl, p + 7 * i + 1, by simp only [bt_lit, pk_mul, nI_add], by omega, ?_⟩
      refine ⟨_, rfl, p + 7 * i + 4, by simp only [bt_lit, pk_mul, nI_add], by omega, ?_⟩
      refine ⟨fun q2 => ⟨fun q3 => ?_, fun q3 => ?_⟩, fun q2 => ⟨fun q3 => ?_, fun q3 => ?_⟩⟩
      · rw [hb, hd, s1] at q2
        rw [hb, hd, s2 q2, nI_leI (by omega) (by omega)] at q3
        rw [show min g (b - d) = b - d by omega, ← s2 q2, ← hb, ← hd] at h
        exact h
      · rw [hb, hd, s1] at q2
        rw [hb, hd, s2 q2, nI_leI (by omega) (by omega)] at q3
        rw [show min g (b - d) = g by omega] at h
        exact h
      · rw [hb, hd, s1] at q2
        rw [show min g (b - d) = 0 by omega] at h
        exact h
      · rw [hb, hd, s1] at q2
        rw [← nI_0, nI_leI (by omega) (by omega)] at q3
        omega
    · rw [ha, bt_n1 (by omega)] at q
      rw [if_pos q] at h
      exact h
  · exact False.elim h
def sX6_isEnough : bt_Sp := fun as M N K => match as with
  | [.ref c, .int kd, .int nd, .int f, .int u] => ∃ kd' nd' f' u', c = 67 ∧ kd = nI kd' ∧ kd' ≤ 4 ∧ nd = nI nd' ∧ nd' ≤ 9 ∧ f = nI (f' + 1) ∧ f' ≤ 6 ∧ u = nI u' ∧ u' ≤ 9 ∧ K (some (.int (if bt_psB kd' nd' u' f' 0 = true then 1 else 0))) M N
  | _ => False
theorem mX6_isEnough : bt_MT bt_TX6_isEnough bt_FX6 [] 2 5 sX6_isEnough := by
  intro as M N Rt h P hP
  unfold sX6_isEnough at h
  split at h
  · obtain ⟨kd, nd, f, u, rfl, rfl, hk, rfl, hn, rfl, hf, rfl, hu, h⟩ := h
    have hmul : nd * (f + 1) ≤ 63 := by
      calc nd * (f + 1) ≤ 9 * 7 := Nat.mul_le_mul hn (by omega)
        _ = 63 := rfl
    have no : ¬ bt_psB kd nd u f 0 = true → Rt (some (.int 0)) M N := fun q => by rw [if_neg q] at h; exact h
    have yes : bt_psB kd nd u f 0 = true → Rt (some (.int 1)) M N := fun q => by rw [if_pos q] at h; exact h
    rw [bt_psB_iff] at no yes
    unfold bt_ps at no yes
    have e2 : (nI kd = 2 ↔ kd = 2) := nI_eq (b := 2) (by omega) (by omega)
    have e4 : (nI kd = 4 ↔ kd = 4) := nI_eq (b := 4) (by omega) (by omega)
    have e0 : (nI kd = 0 ↔ kd = 0) := bt_n0 (by omega)
    have l1 : nI (f + 1) ≤ 1 ↔ f + 1 ≤ 1 := nI_leI (b := 1) (by omega) (by omega)
    have m1 : nI nd * nI (f + 1) = nI (nd * (f + 1)) := pk_mul _ _
    have m2 : nI nd * 2 = nI (nd * 2) := pk_mul nd 2
    have m3 : nI nd * 1 = nI (nd * 1) := pk_mul nd 1
    have c1 := nI_ltI (a := u) (b := nd * (f + 1)) (by omega) (by omega)
    have c2 := nI_ltI (a := u) (b := nd * 2) (by omega) (by omega)
    have c3 := nI_ltI (a := u) (b := nd * 1) (by omega) (by omega)
    refine bt_go0 rfl hP 60 ?_
    have tail : kd = 2 ∨ f = 0 → ¬ kd = 0 → (nI kd = 2 → nI u < nI nd * nI (f + 1) → Rt (some (.int 0)) M N) ∧ (nI kd = 2 → ¬ nI u < nI nd * nI (f + 1) → Rt (some (.int 1)) M N) ∧ (¬ nI kd = 2 → nI kd = 4 → nI u < nI nd * 2 → Rt (some (.int 0)) M N) ∧ (¬ nI kd = 2 → nI kd = 4 → ¬ nI u < nI nd * 2 → Rt (some (.int 1)) M N) ∧ (¬ nI kd = 2 → ¬ nI kd = 4 → nI u < nI nd * 1 → Rt (some (.int 0)) M N) ∧ (¬ nI kd = 2 → ¬ nI kd = 4 → ¬ nI u < nI nd * 1 → Rt (some (.int 1)) M N) := by
      intro z z0
      rw [m1, m2, m3, c1, c2, c3, e2, e4]
      refine ⟨fun a b => no (by omega), fun a b => yes (by omega), fun a a2 b => no (by omega), fun a a2 b => yes (by omega), fun a a2 b => no (by omega), fun a a2 b => yes (by omega)⟩
    refine ⟨fun q => ⟨Or.inl rfl, no ?_⟩, fun q => ⟨fun q2 => ?_, fun q2 => ⟨fun q3 => ?_, fun q3 => ⟨Or.inl rfl, no ?_⟩⟩⟩⟩
    · rw [e0] at q; omega
    · rw [e0] at q
      obtain ⟨t1, t2, -⟩ := tail (Or.inl (e2.mp q2)) q
      exact ⟨fun z => absurd q2 z, fun _ => ⟨fun z => ⟨Or.inl rfl, t1 q2 z⟩, fun z => ⟨Or.inr rfl, t2 q2 z⟩⟩⟩
    · rw [e0] at q
      rw [l1] at q3
      obtain ⟨-, -, t3, t4, t5, t6⟩ := tail (Or.inr (by omega)) q
      refine ⟨fun _ => ⟨fun a => ⟨fun z => ⟨Or.inl rfl, t5 q2 a z⟩, fun z => ⟨Or.inr rfl, t6 q2 a z⟩⟩, fun a => ⟨fun z => ⟨Or.inl rfl, t3 q2 a z⟩, fun z => ⟨Or.inr rfl, t4 q2 a z⟩⟩⟩, fun z => absurd z q2⟩
    · rw [e0] at q
      rw [l1] at q3
      rw [e2] at q2
      omega
  · exact False.elim h
end
section
/-! THE MODEL: a page holds a world -/
def bt_mW (M : bt_M) (p : Nat) (w : bt_W) : Prop := bt_wf w ∧ M 67 1 = nI (w 12 0) ∧ M 67 2 = nI (w 12 1) ∧
  M 68 (p + 56) = nI (w 12 2) - 5 ∧ M 68 (p + 57) = nI (w 12 3) ∧ M 68 (p + 88) = nI (w 12 4) ∧ M 68 (p + 89) = nI (w 12 5) ∧
  (∀ i, i < w 12 0 → M 68 (p + 7 * i) = nI (w 0 i)) ∧ (∀ i, i < w 12 0 → M 68 (p + 7 * i + 1) = nI (w 1 i)) ∧ (∀ i, i < w 12 0 → M 68 (p + 7 * i + 2) = nI (w 2 i)) ∧ (∀ i, i < w 12 0 → M 68 (p + 7 * i + 3) = nI (w 3 i) - 10) ∧ (∀ i, i < w 12 0 → M 68 (p + 7 * i + 4) = nI (w 4 i)) ∧ (∀ i, i < w 12 0 → M 68 (p + 7 * i + 5) = nI (w 5 i)) ∧ (∀ i, i < w 12 0 → M 68 (p + 7 * i + 6) = nI (w 6 i)) ∧
  (∀ k, k < w 12 1 → M 68 (p + 58 + 5 * k) = nI (w 7 k)) ∧ (∀ k, k < w 12 1 → M 68 (p + 58 + 5 * k + 1) = nI (w 8 k)) ∧ (∀ k, k < w 12 1 → M 68 (p + 58 + 5 * k + 2) = nI (w 9 k)) ∧ (∀ k, k < w 12 1 → M 68 (p + 58 + 5 * k + 3) = nI (w 10 k)) ∧ bt_pg M p (w 12 1) (w 11)
theorem bt_psB_led (kd nd u f led : Nat) : bt_psB kd nd u f led = true ↔ bt_psB kd nd u f 0 = true ∨ (kd = 3 ∧ f = 0 ∧ led = 1) := by
  rw [bt_psB_iff, bt_psB_iff]
  unfold bt_ps
  omega
/-- who comes past by passing -/
def bt_co (w : bt_W) (u : Nat) (ps : Nat → Nat) (k : Nat) : Nat := (bt_fr w u ps (k + 1)).2
theorem bt_co_b1 (w : bt_W) (u : Nat) (ps : Nat → Nat) : bt_b1 (bt_co w u ps) := fun k => (bt_fr_01 w u ps (k + 1)).1
theorem bt_co_le (w : bt_W) (u : Nat) (ps : Nat → Nat) (hb : bt_b1 ps) (k : Nat) : ps k + bt_co w u ps k ≤ 1 := by
  have h1 := bt_co_b1 w u ps k
  have h2 := hb k
  by_cases h : ps k = 1
  · have : bt_co w u ps k = 0 := by simp [bt_co, bt_fr, h]
    omega
  · omega
/-- in front are those that are behind the tractor still -/
theorem bt_fr_ct (w : bt_W) (u : Nat) (ps : Nat → Nat) (hb : bt_b1 ps) : ∀ k, (bt_fr w u ps k).1 = bt_ct1 (fun j => 1 - (ps j + bt_co w u ps j)) k
  | 0 => rfl
  | k + 1 => by
    have ih := bt_fr_ct w u ps hb k
    have hk := hb k
    show (bt_fr w u ps (k + 1)).1 = bt_ct1 (fun j => 1 - (ps j + bt_co w u ps j)) k + (1 - (ps k + bt_co w u ps k))
    rw [← ih]
    simp only [bt_co, bt_fr]
    by_cases h1 : ps k = 1
    · simp [h1]
    · have h0 : ps k = 0 := by omega
      by_cases h2 : bt_psB (w 7 k) (w 8 k) u (bt_fr w u ps k).1 (bt_fr w u ps k).2 = true
      · simp [h0, h2]
      · simp [h0, h2]
def bt_CX6_passOn : bt_C := [(158, 1, 3, sX6_aheadOf), (139, 1, 3, sX6_isPast), (177, 1, 5, sX6_isEnough)]
def sX6_passOn : bt_Sp := fun as M N K => match as with
  | [.ref c, .int p, .int u] => ∃ p' u' w, c = 67 ∧ p = nI p' ∧ p' ≤ 450 ∧ u = nI u' ∧ u' ≤ 9 ∧ bt_mW M p' w ∧ ∀ M', (∀ x : Nat, x ≠ 68 → M' x = M x) → (∀ j : Nat, (∀ k, k < w 12 1 → j ≠ p' + 58 + 5 * k + 4) → M' 68 j = M 68 j) → bt_pg M' p' (w 12 1) (fun k => w 11 k + bt_co w u' (w 11) k) → K (some (.int (nI (bt_mk (bt_co w u' (w 11)) (w 12 1))))) M' N
  | _ => False
set_option maxHeartbeats 2000000 in
theorem mX6_passOn : bt_MT bt_TX6_passOn bt_FX6 bt_CX6_passOn 1 8 sX6_passOn := by
  intro as M N Rt h P hP
  unfold sX6_passOn at h
  split at h
  · obtain ⟨p, u, w, rfl, rfl, hp, rfl, hu, hw, h⟩ := h
    obtain ⟨hf, g1, g2, g3, g4, g5, g6, r0, r1, r2, r3, r4, r5, r6, c7, c8, c9, c10, c11⟩ := id hw
    obtain ⟨f1, f2, f3, f4, f5, f6, f7, f8, f9, f10, f11, f12, f13, f14, f15, f16, f17, f18⟩ := id hf
    have hcb := bt_co_b1 w u (w 11)
    have hcl := bt_co_le w u (w 11) f18
    have loop : ∀ v pc L st M' N', (N' = N ∧ ∃ k x5 x6 x7, k ≤ w 12 1 ∧ L = [some (.ref 67), some (.int (nI p)), some (.int (nI u)), some (.int (nI (bt_mk (bt_co w u (w 11)) k))), some (.int (nI k)), x5, x6, x7] ∧ (∀ x : Nat, x ≠ 68 → M' x = M x) ∧ (∀ j : Nat, (∀ k, k < w 12 1 → j ≠ p + 58 + 5 * k + 4) → M' 68 j = M 68 j) ∧ bt_pg M' p (w 12 1) (fun j => w 11 j + if j < k then bt_co w u (w 11) j else 0) ∧ ((pc = 5 ∧ st = [] ∧ v = 2 * (w 12 1 - k) + 1) ∨ (pc = 75 ∧ k < w 12 1 ∧ v = 2 * (w 12 1 - k) ∧ x5 = some (.int (nI (p + 58 + 5 * k))) ∧ ∃ fl mn, st = [.int (nI fl)] ∧ fl ≤ 1 ∧ x6 = some (.int (nI mn)) ∧ (w 11 k = 0 → mn = (bt_fr w u (w 11) k).1 + 1 ∧ (fl = 1 ↔ w 7 k = 3 ∧ (bt_fr w u (w 11) k).1 = 0 ∧ (bt_fr w u (w 11) k).2 = 1))))) → P pc L st M' N' := by
      refine bt_loop rfl hP 80 [5, 75] (fun v pc L st M' N' => (N' = N ∧ ∃ k x5 x6 x7, k ≤ w 12 1 ∧ L = [some (.ref 67), some (.int (nI p)), some (.int (nI u)), some (.int (nI (bt_mk (bt_co w u (w 11)) k))), some (.int (nI k)), x5, x6, x7] ∧ (∀ x : Nat, x ≠ 68 → M' x = M x) ∧ (∀ j : Nat, (∀ k, k < w 12 1 → j ≠ p + 58 + 5 * k + 4) → M' 68 j = M 68 j) ∧ bt_pg M' p (w 12 1) (fun j => w 11 j + if j < k then bt_co w u (w 11) j else 0) ∧ ((pc = 5 ∧ st = [] ∧ v = 2 * (w 12 1 - k) + 1) ∨ (pc = 75 ∧ k < w 12 1 ∧ v = 2 * (w 12 1 - k) ∧ x5 = some (.int (nI (p + 58 + 5 * k))) ∧ ∃ fl mn, st = [.int (nI fl)] ∧ fl ≤ 1 ∧ x6 = some (.int (nI mn)) ∧ (w 11 k = 0 → mn = (bt_fr w u (w 11) k).1 + 1 ∧ (fl = 1 ↔ w 7 k = 3 ∧ (bt_fr w u (w 11) k).1 = 0 ∧ (bt_fr w u (w 11) k).2 = 1)))))) ?_
      rintro v pc L st M' N' ⟨rfl, k, x5, x6, x7, hk, rfl, q1, q2, q3, hpc⟩
      have hfr := bt_fr_01 w u (w 11) k
      have hpk := f18 k
      have hmk := bt_mk_lt hcb k
      have hb' : bt_b1 (fun j => w 11 j + if j < k then bt_co w u (w 11) j else 0) := fun j => by
        have := hcl j
        have := f18 j
        simp only
        split <;> omega
      have e2 : M' 67 2 = nI (w 12 1) := by rw [q1 67 (by omega)]; exact g2
      rcases hpc with ⟨rfl, rfl, rfl⟩ | ⟨rfl, hkm, rfl, rfl, fl, mn, rfl, hfl, rfl, hfm⟩
      · refine ⟨fun q => ?_, fun q => ?_⟩
        · rw [e2, nI_leI (by omega) (by omega)] at q
          have hkm : k = w 12 1 := by omega
          subst hkm
          refine h M' q1 q2 ?_
          intro j hj
          rw [q3 j hj]
          simp only [if_pos hj]
        · rw [e2, nI_leI (by omega) (by omega)] at q
          have hkm : k < w 12 1 := by omega
          have ekd : M' 68 (p + 58 + 5 * k) = nI (w 7 k) := by
            rw [q2 _ (fun j _ => by omega)]; exact c7 k hkm
          have h7 := f14 k
          have hct : w 11 k = 0 → (if (w 11 k + if k < k then bt_co w u (w 11) k else 0) = 1 then 0 else bt_ct1 (fun j => 1 - (w 11 j + if j < k then bt_co w u (w 11) j else 0)) k) = (bt_fr w u (w 11) k).1 := by
            intro h0
            rw [if_neg (Nat.lt_irrefl k), h0, if_neg (by omega), bt_fr_ct w u (w 11) f18 k]
            exact bt_ct1_c (fun j hj => by simp only [if_pos hj])
          have hml : (if (w 11 k + if k < k then bt_co w u (w 11) k else 0) = 1 then 0 else bt_ct1 (fun j => 1 - (w 11 j + if j < k then bt_co w u (w 11) j else 0)) k) ≤ 6 := by
            have := bt_ct1_le (f := fun j => 1 - (w 11 j + if j < k then bt_co w u (w 11) j else 0)) (fun j => Nat.sub_le _ _) k
            rw [if_neg (Nat.lt_irrefl k)]
            split <;> omega
          refine ⟨p, k, fun j => w 11 j + if j < k then bt_co w u (w 11) j else 0, rfl, rfl, hp, rfl, by omega, hb', fun j hj => q3 j (by omega), ?_⟩
          dsimp only
          generalize hah : (if (w 11 k + if k < k then bt_co w u (w 11) k else 0) = 1 then 0 else bt_ct1 (fun j => 1 - (w 11 j + if j < k then bt_co w u (w 11) j else 0)) k) = ah at hct hml
          have eat : nI p + 58 + 5 * nI k = nI (p + 58 + 5 * k) := by simp only [bt_lit, pk_mul, nI_add]
          refine ⟨_, rfl, p + 58 + 5 * k, eat, by omega, ?_⟩
          have e3 : (M' 68 (p + 58 + 5 * k) = 3 ↔ w 7 k = 3) := by rw [ekd]; exact nI_eq (b := 3) (by omega) (by omega)
          have em : (nI ah + 1 = 1 ↔ ah = 0) := by
            rw [nI_1, show (1 : Int32) = nI 1 from rfl, nI_eq (by omega) (by omega)]
            omega
          have fin : ∀ fl : Nat, fl ≤ 1 → (w 11 k = 0 → (fl = 1 ↔ w 7 k = 3 ∧ (bt_fr w u (w 11) k).1 = 0 ∧ (bt_fr w u (w 11) k).2 = 1)) → ∃ u', u' < 2 * (w 12 1 - k) + 1 ∧ (N' = N' ∧ ∃ k_1 x5 x6 x7', k_1 ≤ w 12 1 ∧ [some (Value.ref 67), some (.int (nI p)), some (.int (nI u)), some (.int (nI (bt_mk (bt_co w u (w 11)) k))), some (.int (nI k)), some (.int (nI p + 58 + 5 * nI k)), some (.int (nI ah + 1)), x7] = [some (.ref 67), some (.int (nI p)), some (.int (nI u)), some (.int (nI (bt_mk (bt_co w u (w 11)) k_1))), some (.int (nI k_1)), x5, x6, x7'] ∧ (∀ x : Nat, x ≠ 68 → M' x = M x) ∧ (∀ j : Nat, (∀ k, k < w 12 1 → j ≠ p + 58 + 5 * k + 4) → M' 68 j = M 68 j) ∧ bt_pg M' p (w 12 1) (fun j => w 11 j + if j < k_1 then bt_co w u (w 11) j else 0) ∧ ((75 = 5 ∧ [Value.int (nI fl)] = [] ∧ u' = 2 * (w 12 1 - k_1) + 1) ∨ (75 = 75 ∧ k_1 < w 12 1 ∧ u' = 2 * (w 12 1 - k_1) ∧ x5 = some (.int (nI (p + 58 + 5 * k_1))) ∧ ∃ fl' mn, [Value.int (nI fl)] = [.int (nI fl')] ∧ fl' ≤ 1 ∧ x6 = some (.int (nI mn)) ∧ (w 11 k_1 = 0 → mn = (bt_fr w u (w 11) k_1).1 + 1 ∧ (fl' = 1 ↔ w 7 k_1 = 3 ∧ (bt_fr w u (w 11) k_1).1 = 0 ∧ (bt_fr w u (w 11) k_1).2 = 1))))) := by
            intro fl h1 h2
            exact ⟨2 * (w 12 1 - k), by omega, rfl, k, _, _, x7, hk, rfl, q1, q2, q3, Or.inr ⟨rfl, hkm, rfl, by rw [eat], fl, ah + 1, rfl, h1, by rw [nI_1], fun h0 => ⟨by rw [hct h0], h2 h0⟩⟩⟩
          refine ⟨fun z => fin 0 (by omega) (fun h0 => ?_), fun z => ⟨fun z2 => fin 0 (by omega) (fun h0 => ?_), fun z2 => ⟨fun z3 => fin 0 (by omega) (fun h0 => ?_), fun z3 => ⟨fun z4 => fin 0 (by omega) (fun h0 => ?_), fun z4 => fin 1 (by omega) (fun h0 => ?_)⟩⟩⟩⟩
          · rw [e3] at z; omega
          · rw [em] at z2; have := hct h0; omega
          · rw [bt_le0 (by omega)] at z3
            subst z3
            have : (bt_fr w u (w 11) 0).2 = 0 := rfl
            omega
          · rw [bt_le0 (by omega)] at z3
            obtain ⟨j, rfl⟩ : ∃ j, k = j + 1 := ⟨k - 1, by omega⟩
            rw [nI_pred, bt_bitN hcb (by omega) (by omega), if_pos (by omega), bt_n1 (by have := hcb j; omega)] at z4
            have : (bt_fr w u (w 11) (j + 1)).2 = bt_co w u (w 11) j := rfl
            omega
          · rw [bt_le0 (by omega)] at z3
            obtain ⟨j, rfl⟩ : ∃ j, k = j + 1 := ⟨k - 1, by omega⟩
            rw [nI_pred, bt_bitN hcb (by omega) (by omega), if_pos (by omega), bt_n1 (by have := hcb j; omega)] at z4
            have : (bt_fr w u (w 11) (j + 1)).2 = bt_co w u (w 11) j := rfl
            rw [e3] at z
            rw [em] at z2
            have := hct h0
            omega
      · -- it passes or not
        have epk : M' 68 (p + 58 + 5 * k + 4) = nI (w 11 k) := by
          rw [q3 k hkm]; simp
        have ekd : M' 68 (p + 58 + 5 * k) = nI (w 7 k) := by
          rw [q2 _ (fun j _ => by omega)]; exact c7 k hkm
        have end_ : M' 68 (p + 58 + 5 * k + 1) = nI (w 8 k) := by
          rw [q2 _ (fun j _ => by omega)]; exact c8 k hkm
        have stay : bt_co w u (w 11) k = 0 → ∃ u', u' < 2 * (w 12 1 - k) ∧ (N' = N' ∧ ∃ k_1 x5 x6 x7', k_1 ≤ w 12 1 ∧ [some (Value.ref 67), some (.int (nI p)), some (.int (nI u)), some (.int (nI (bt_mk (bt_co w u (w 11)) k))), some (.int (nI k + 1)), some (.int (nI (p + 58 + 5 * k))), some (.int (nI mn)), some (.int (nI fl))] = [some (.ref 67), some (.int (nI p)), some (.int (nI u)), some (.int (nI (bt_mk (bt_co w u (w 11)) k_1))), some (.int (nI k_1)), x5, x6, x7'] ∧ (∀ x : Nat, x ≠ 68 → M' x = M x) ∧ (∀ j : Nat, (∀ k, k < w 12 1 → j ≠ p + 58 + 5 * k + 4) → M' 68 j = M 68 j) ∧ bt_pg M' p (w 12 1) (fun j => w 11 j + if j < k_1 then bt_co w u (w 11) j else 0) ∧ ((5 = 5 ∧ ([] : List Value) = [] ∧ u' = 2 * (w 12 1 - k_1) + 1) ∨ (5 = 75 ∧ k_1 < w 12 1 ∧ u' = 2 * (w 12 1 - k_1) ∧ x5 = some (.int (nI (p + 58 + 5 * k_1))) ∧ ∃ fl' mn, ([] : List Value) = [.int (nI fl')] ∧ fl' ≤ 1 ∧ x6 = some (.int (nI mn)) ∧ (w 11 k_1 = 0 → mn = (bt_fr w u (w 11) k_1).1 + 1 ∧ (fl' = 1 ↔ w 7 k_1 = 3 ∧ (bt_fr w u (w 11) k_1).1 = 0 ∧ (bt_fr w u (w 11) k_1).2 = 1))))) := by
          intro hc0
          refine ⟨2 * (w 12 1 - (k + 1)) + 1, by omega, rfl, k + 1, some (.int (nI (p + 58 + 5 * k))), some (.int (nI mn)), some (.int (nI fl)), by omega, ?_, q1, q2, ?_, Or.inl ⟨rfl, rfl, rfl⟩⟩
          · rw [nI_1]
            simp [bt_mk, hc0]
          · intro j hj
            rw [q3 j hj]
            by_cases hjk : j = k
            · subst hjk
              simp [hc0]
            · by_cases hl : j < k
              · simp [hl, show j < k + 1 by omega]
              · simp [hl, show ¬ j < k + 1 by omega]
        have go : bt_co w u (w 11) k = 1 → ∀ M2, M2 = va_up M' 68 (upd (M' 68) (p + 58 + 5 * k + 4) 1) → ∃ u', u' < 2 * (w 12 1 - k) ∧ (N' = N' ∧ ∃ k_1 x5 x6 x7', k_1 ≤ w 12 1 ∧ [some (Value.ref 67), some (.int (nI p)), some (.int (nI u)), some (.int (nI (bt_mk (bt_co w u (w 11)) k) ||| ((1 : Int32) <<< (nI k &&& 31)))), some (.int (nI k + 1)), some (.int (nI (p + 58 + 5 * k))), some (.int (nI mn)), some (.int (nI fl))] = [some (.ref 67), some (.int (nI p)), some (.int (nI u)), some (.int (nI (bt_mk (bt_co w u (w 11)) k_1))), some (.int (nI k_1)), x5, x6, x7'] ∧ (∀ x : Nat, x ≠ 68 → M2 x = M x) ∧ (∀ j : Nat, (∀ k, k < w 12 1 → j ≠ p + 58 + 5 * k + 4) → M2 68 j = M 68 j) ∧ bt_pg M2 p (w 12 1) (fun j => w 11 j + if j < k_1 then bt_co w u (w 11) j else 0) ∧ ((5 = 5 ∧ ([] : List Value) = [] ∧ u' = 2 * (w 12 1 - k_1) + 1) ∨ (5 = 75 ∧ k_1 < w 12 1 ∧ u' = 2 * (w 12 1 - k_1) ∧ x5 = some (.int (nI (p + 58 + 5 * k_1))) ∧ ∃ fl' mn, ([] : List Value) = [.int (nI fl')] ∧ fl' ≤ 1 ∧ x6 = some (.int (nI mn)) ∧ (w 11 k_1 = 0 → mn = (bt_fr w u (w 11) k_1).1 + 1 ∧ (fl' = 1 ↔ w 7 k_1 = 3 ∧ (bt_fr w u (w 11) k_1).1 = 0 ∧ (bt_fr w u (w 11) k_1).2 = 1))))) := by
          rintro hc1 M2 rfl
          have hw0 : w 11 k = 0 := by have := hcl k; omega
          refine ⟨2 * (w 12 1 - (k + 1)) + 1, by omega, rfl, k + 1, some (.int (nI (p + 58 + 5 * k))), some (.int (nI mn)), some (.int (nI fl)), by omega, ?_, ?_, ?_, ?_, Or.inl ⟨rfl, rfl, rfl⟩⟩
          · rw [nI_1, bt_or1 k (by omega) _ hmk]
            simp [bt_mk, hc1]
          · intro x z
            rw [bt_up_n z]; exact q1 x z
          · intro j hj
            rw [bt_up_s, pk_un (hj k hkm)]; exact q2 j hj
          · intro j hj
            rw [bt_up_s]
            by_cases hjk : j = k
            · subst hjk
              rw [pk_us]
              simp [hc1, hw0]
              rfl
            · rw [pk_un (by omega), q3 j hj]
              by_cases hl : j < k
              · simp [hl, show j < k + 1 by omega]
              · simp [hl, show ¬ j < k + 1 by omega]
        refine ⟨p, k, w 11 k, rfl, rfl, rfl, by omega, epk, hpk, ?_⟩
        refine ⟨fun z => ?_, fun z => ?_⟩
        · rw [bt_n0 (by omega)] at z
          exact stay (by have := hcl k; omega)
        · rw [bt_n0 (by omega)] at z
          obtain ⟨hmn, hfl2⟩ := hfm z
          have hy : (bt_psB (w 7 k) (w 8 k) u (bt_fr w u (w 11) k).1 0 = true ∨ (w 7 k = 3 ∧ (bt_fr w u (w 11) k).1 = 0 ∧ (bt_fr w u (w 11) k).2 = 1)) → bt_co w u (w 11) k = 1 := fun y => by
            simp only [bt_co, bt_fr, if_neg (show ¬ w 11 k = 1 by omega), if_pos ((bt_psB_led _ _ _ _ _).mpr y)]
          have hn : ¬ (bt_psB (w 7 k) (w 8 k) u (bt_fr w u (w 11) k).1 0 = true ∨ (w 7 k = 3 ∧ (bt_fr w u (w 11) k).1 = 0 ∧ (bt_fr w u (w 11) k).2 = 1)) → bt_co w u (w 11) k = 0 := fun y => by
            simp only [bt_co, bt_fr, if_neg (show ¬ w 11 k = 1 by omega), if_neg (fun z => y ((bt_psB_led _ _ _ _ _).mp z))]
          refine ⟨fun z2 => ?_, fun z2 => ?_⟩
          · rw [bt_n0 (by omega)] at z2
            have hx := hfl2.mp (by omega)
            have hco := hy (Or.inr hx)
            refine ⟨_, rfl, p + 58 + 5 * k + 4, by simp only [bt_lit, nI_add], by omega, ?_⟩
            exact go hco
          · rw [bt_n0 (by omega)] at z2
            have hx : ¬ (w 7 k = 3 ∧ (bt_fr w u (w 11) k).1 = 0 ∧ (bt_fr w u (w 11) k).2 = 1) := fun y => by have := hfl2.mpr y; omega
            refine ⟨_, rfl, p + 58 + 5 * k, rfl, by omega, ?_⟩
            refine ⟨_, rfl, p + 58 + 5 * k + 1, by simp only [bt_lit, nI_add], by omega, ?_⟩
            refine ⟨w 7 k, w 8 k, (bt_fr w u (w 11) k).1, u, rfl, ekd, f14 k, end_, f15 k, by rw [hmn], by omega, rfl, hu, ?_⟩
            by_cases hps : bt_psB (w 7 k) (w 8 k) u (bt_fr w u (w 11) k).1 0 = true
            · have hco := hy (Or.inl hps)
              rw [if_pos hps]
              refine ⟨fun y => absurd y (by decide), fun _ => ?_⟩
              refine ⟨_, rfl, p + 58 + 5 * k + 4, by simp only [bt_lit, nI_add], by omega, ?_⟩
              exact go hco
            · have hco := hn (fun y => y.elim hps hx)
              rw [if_neg hps]
              exact ⟨fun _ => stay hco, fun y => absurd rfl y⟩
    refine bt_go rfl hP 60 [5] P (fun _ _ _ _ _ h => h) ?_
    refine loop _ _ _ _ _ _ ⟨rfl, 0, none, none, none, Nat.zero_le _, rfl, fun _ _ => rfl, fun _ _ => rfl, ?_, Or.inl ⟨rfl, rfl, rfl⟩⟩
    intro j hj
    rw [c11 j hj]
    simp
  · exact False.elim h
end
section
/-! THE MODEL: a stretch is driven -/
def sX6_bitsOf : bt_Sp := fun as M N K => match as with
  | [.int x] => ∃ a, x = nI a ∧ a < 256 ∧ K (some (.int (nI (bt_pc a)))) M N
  | _ => False
theorem mX6_bitsOf : bt_MT bt_TX6_bitsOf bt_FX6 [] 1 3 sX6_bitsOf := by
  intro as M N Rt h P hP
  unfold sX6_bitsOf at h
  split at h
  · obtain ⟨a, rfl, ha, h⟩ := h
    have loop : ∀ v pc L st M' N', (pc = 4 ∧ st = [] ∧ M' = M ∧ N' = N ∧ ∃ k, k ≤ 8 ∧ v = 8 - k ∧ L = [some (.int (nI a)), some (.int (nI (bt_ct1 (fun k => a / 2 ^ k % 2) k))), some (.int (nI k))]) → P pc L st M' N' := by
      refine bt_loop rfl hP 60 [4] (fun v pc L st M' N' => (pc = 4 ∧ st = [] ∧ M' = M ∧ N' = N ∧ ∃ k, k ≤ 8 ∧ v = 8 - k ∧ L = [some (.int (nI a)), some (.int (nI (bt_ct1 (fun k => a / 2 ^ k % 2) k))), some (.int (nI k))])) ?_
      rintro v pc L st M' N' ⟨rfl, rfl, rfl, rfl, k, hk, rfl, rfl⟩
      refine ⟨fun q => ?_, fun q => ?_⟩
      · rw [bt_lit, nI_leI (by omega) (by omega)] at q
        have : k = 8 := by omega
        subst this
        exact h
      · rw [bt_lit, nI_leI (by omega) (by omega)] at q
        refine ⟨8 - (k + 1), by omega, rfl, rfl, rfl, rfl, k + 1, by omega, rfl, ?_⟩
        have h3 : a / 2 ^ k ≤ a := Nat.div_le_self _ _
        rw [bt_shr (by omega) (by omega), bt_and1 (by omega), nI_add, nI_1]
        rfl
    refine bt_go rfl hP 60 [4] P (fun _ _ _ _ _ h => h) ?_
    exact loop _ _ _ _ _ _ ⟨rfl, rfl, rfl, rfl, 0, by omega, rfl, rfl⟩
  · exact False.elim h
/-- a page is written -/
def bt_mfr (p : Nat) (M M' : bt_M) : Prop := (∀ x : Nat, x ≠ 68 → M' x = M x) ∧ ∀ j : Nat, (j < p ∨ p + 90 ≤ j) → M' 68 j = M 68 j
theorem bt_dv_mW {M M' : bt_M} {p g : Nat} {w : bt_W} (hw : bt_mW M p w) (hat : w 12 4 < w 12 0) (h1 : ∀ x : Nat, x ≠ 68 → M' x = M x) (h2 : ∀ j : Nat, j ≠ p + 88 → j ≠ p + 89 → (∀ k, k < w 12 1 → j ≠ p + 58 + 5 * k + 4 ∧ j ≠ p + 58 + 5 * k + 3) → M' 68 j = M 68 j)
    (h3 : bt_pg M' p (w 12 1) (fun k => w 11 k + bt_cm w (w 12 4) g (w 11) k)) (h4 : M' 68 (p + 88) = nI (w 12 4 + 1)) (h5 : M' 68 (p + 89) = nI (w 12 5 + w 0 (w 12 4) * w 12 2)) (h6 : ∀ k, k < w 12 1 → M' 68 (p + 58 + 5 * k + 3) = nI (w 10 k + bt_mn w (w 12 4) k (w 11 k + bt_cm w (w 12 4) g (w 11) k))) : bt_mW M' p (bt_dv w g) := by
  obtain ⟨hf, g1, g2, g3, g4, g5, g6, r0, r1, r2, r3, r4, r5, r6, c7, c8, c9, c10, c11⟩ := hw
  have hn := hf.1
  have hm := hf.2.1
  refine ⟨bt_dv_wf hf hat, ?_, ?_, ?_, ?_, ?_, ?_, ?_, ?_, ?_, ?_, ?_, ?_, ?_, ?_, ?_, ?_, ?_, ?_⟩
  · rw [h1 67 (by omega)]; exact g1
  · rw [h1 67 (by omega)]; exact g2
  · rw [h2 _ (by omega) (by omega) (fun k hk => by omega)]; exact g3
  · rw [h2 _ (by omega) (by omega) (fun k hk => by omega)]; exact g4
  · exact h4
  · exact h5
  · intro i hi; have hi : i < w 12 0 := hi; rw [h2 _ (by omega) (by omega) (fun k hk => by omega)]; exact r0 i hi
  · intro i hi; have hi : i < w 12 0 := hi; rw [h2 _ (by omega) (by omega) (fun k hk => by omega)]; exact r1 i hi
  · intro i hi; have hi : i < w 12 0 := hi; rw [h2 _ (by omega) (by omega) (fun k hk => by omega)]; exact r2 i hi
  · intro i hi; have hi : i < w 12 0 := hi; rw [h2 _ (by omega) (by omega) (fun k hk => by omega)]; exact r3 i hi
  · intro i hi; have hi : i < w 12 0 := hi; rw [h2 _ (by omega) (by omega) (fun k hk => by omega)]; exact r4 i hi
  · intro i hi; have hi : i < w 12 0 := hi; rw [h2 _ (by omega) (by omega) (fun k hk => by omega)]; exact r5 i hi
  · intro i hi; have hi : i < w 12 0 := hi; rw [h2 _ (by omega) (by omega) (fun k hk => by omega)]; exact r6 i hi
  · intro i hi; have hi : i < w 12 1 := hi; rw [h2 _ (by omega) (by omega) (fun k hk => by omega)]; exact c7 i hi
  · intro i hi; have hi : i < w 12 1 := hi; rw [h2 _ (by omega) (by omega) (fun k hk => by omega)]; exact c8 i hi
  · intro i hi; have hi : i < w 12 1 := hi; rw [h2 _ (by omega) (by omega) (fun k hk => by omega)]; exact c9 i hi
  · exact h6
  · exact h3
def bt_CX6_driveOn : bt_C := [(146, 1, 2, sX6_pastOn), (181, 0, 1, sX6_bitsOf), (163, 1, 4, sX6_useOn), (184, 1, 3, sX6_passOn), (139, 1, 3, sX6_isPast), (143, 1, 2, sX6_paceOn)]
def sX6_driveOn : bt_Sp := fun as M N K => match as with
  | [.ref c, .int p, .int g] => ∃ p' g' w, c = 67 ∧ p = nI p' ∧ p' ≤ 450 ∧ g = nI g' ∧ g' ≤ 9 ∧ bt_mW M p' w ∧ w 12 4 < w 12 0 ∧ ∀ M', bt_mW M' p' (bt_dv w g') → bt_mfr p' M M' → K (some (.int (nI (bt_mk (bt_cm w (w 12 4) g' (w 11)) (w 12 1))))) M' N
  | _ => False
set_option maxHeartbeats 2000000 in
set_option maxRecDepth 100000 in
theorem mX6_driveOn : bt_MT bt_TX6_driveOn bt_FX6 bt_CX6_driveOn 1 10 sX6_driveOn := by
  intro as M N Rt h P hP
  unfold sX6_driveOn at h
  split at h
  · obtain ⟨p, g, w, rfl, rfl, hp, rfl, hg, hw, hat, h⟩ := h
    obtain ⟨hf, g1, g2, g3, g4, g5, g6, r0, r1, r2, r3, r4, r5, r6, c7, c8, c9, c10, c11⟩ := id hw
    obtain ⟨f1, f2, f3, f4, f5, f6, f7, f8, f9, f10, f11, f12, f13, f14, f15, f16, f17, f18⟩ := id hf
    have hcb := bt_cm_b1 w (w 12 4) g (w 11)
    have hsum := bt_cm_le w (w 12 4) g (w 11) f18
    -- from the times on
    have rest : ∀ M1 x3 x5 (y7 : Int32) x8 x9, (∀ x : Nat, x ≠ 68 → M1 x = M x) → (∀ j : Nat, (∀ k, k < w 12 1 → j ≠ p + 58 + 5 * k + 4) → M1 68 j = M 68 j) → bt_pg M1 p (w 12 1) (fun k => w 11 k + bt_cm w (w 12 4) g (w 11) k) → P 140 [some (.ref 67), some (.int (nI p)), some (.int (nI g)), x3, some (.int (nI (w 0 (w 12 4)))), x5, some (.int (nI (bt_mk (bt_cm w (w 12 4) g (w 11)) (w 12 1)))), some (.int y7), x8, x9] [] M1 N := by
      intro M1 x3 x5 y7 x8 x9 a1 a2 a3
      have loop : ∀ v pc L st M' N', (pc = 143 ∧ st = [] ∧ N' = N ∧ ∃ k x9, k ≤ w 12 1 ∧ v = w 12 1 - k ∧ L = [some (.ref 67), some (.int (nI p)), some (.int (nI g)), x3, some (.int (nI (w 0 (w 12 4)))), x5, some (.int (nI (bt_mk (bt_cm w (w 12 4) g (w 11)) (w 12 1)))), some (.int y7), some (.int (nI k)), x9] ∧ (∀ x : Nat, x ≠ 68 → M' x = M x) ∧ (∀ j : Nat, (∀ k, k < w 12 1 → j ≠ p + 58 + 5 * k + 4 ∧ j ≠ p + 58 + 5 * k + 3) → M' 68 j = M 68 j) ∧ bt_pg M' p (w 12 1) (fun k => w 11 k + bt_cm w (w 12 4) g (w 11) k) ∧ ∀ j, j < w 12 1 → M' 68 (p + 58 + 5 * j + 3) = nI (w 10 j + if j < k then bt_mn w (w 12 4) j (w 11 j + bt_cm w (w 12 4) g (w 11) j) else 0)) → P pc L st M' N' := by
        refine bt_loop rfl hP 80 [143] (fun v pc L st M' N' => (pc = 143 ∧ st = [] ∧ N' = N ∧ ∃ k x9, k ≤ w 12 1 ∧ v = w 12 1 - k ∧ L = [some (.ref 67), some (.int (nI p)), some (.int (nI g)), x3, some (.int (nI (w 0 (w 12 4)))), x5, some (.int (nI (bt_mk (bt_cm w (w 12 4) g (w 11)) (w 12 1)))), some (.int y7), some (.int (nI k)), x9] ∧ (∀ x : Nat, x ≠ 68 → M' x = M x) ∧ (∀ j : Nat, (∀ k, k < w 12 1 → j ≠ p + 58 + 5 * k + 4 ∧ j ≠ p + 58 + 5 * k + 3) → M' 68 j = M 68 j) ∧ bt_pg M' p (w 12 1) (fun k => w 11 k + bt_cm w (w 12 4) g (w 11) k) ∧ ∀ j, j < w 12 1 → M' 68 (p + 58 + 5 * j + 3) = nI (w 10 j + if j < k then bt_mn w (w 12 4) j (w 11 j + bt_cm w (w 12 4) g (w 11) j) else 0))) ?_
        rintro v pc L st M' N' ⟨rfl, rfl, rfl, k, x9, hk, rfl, rfl, q1, q2, q3, q4⟩
        have e2 : M' 67 2 = nI (w 12 1) := by rw [q1 67 (by omega)]; exact g2
        have e56 : M' 68 (p + 56) = nI (w 12 2) - 5 := by rw [q2 _ (fun k hk => by omega)]; exact g3
        have e88 : M' 68 (p + 88) = nI (w 12 4) := by rw [q2 _ (fun k hk => by omega)]; exact g5
        have e89 : M' 68 (p + 89) = nI (w 12 5) := by rw [q2 _ (fun k hk => by omega)]; exact g6
        refine ⟨fun q => ?_, fun q => ?_⟩
        · rw [e2, nI_leI (by omega) (by omega)] at q
          refine ⟨_, rfl, p + 89, by simp only [bt_lit, nI_add], by omega, ?_⟩
          refine ⟨p, w 12 2, rfl, rfl, hp, e56, ?_⟩
          refine ⟨_, rfl, p + 89, by simp only [bt_lit, nI_add], by omega, ?_⟩
          intro M2 d2
          refine ⟨_, rfl, p + 88, by simp only [bt_lit, nI_add], by omega, ?_⟩
          refine ⟨_, rfl, p + 88, by simp only [bt_lit, nI_add], by omega, ?_⟩
          intro M3 d3
          have b68 : ∀ j, j ≠ p + 88 → j ≠ p + 89 → M3 68 j = M' 68 j := fun j z1 z2 => by
            rw [d3, bt_up_s, pk_un z1, d2, bt_up_s, pk_un z2]
          have bx : ∀ x : Nat, x ≠ 68 → M3 x = M x := fun x z => by
            rw [d3, bt_up_n z, d2, bt_up_n z]; exact q1 x z
          refine h M3 (bt_dv_mW hw hat bx ?_ ?_ ?_ ?_ ?_) ⟨bx, ?_⟩
          · intro j z1 z2 z3
            rw [b68 j z1 z2]; exact q2 j z3
          · intro j hj
            rw [b68 _ (by omega) (by omega)]; exact q3 j hj
          · rw [d3, bt_up_s, pk_us, d2, bt_up_s, pk_un (by omega), e88, nI_1]
          · rw [d3, bt_up_s, pk_un (by omega), d2, bt_up_s, pk_us, e89, pk_mul, nI_add]
          · intro j hj
            rw [b68 _ (by omega) (by omega), q4 j hj, if_pos (by omega)]
          · intro j z
            rw [b68 _ (by omega) (by omega)]
            exact q2 j (fun k hk => by omega)
        · rw [e2, nI_leI (by omega) (by omega)] at q
          have hkm : k < w 12 1 := by omega
          have hs1 := hsum k
          have eat : nI p + 58 + 5 * nI k = nI (p + 58 + 5 * k) := by simp only [bt_lit, pk_mul, nI_add]
          have e9 : M' 68 (p + 58 + 5 * k + 2) = nI (w 9 k) := by rw [q2 _ (fun j hj => by omega)]; exact c9 k hkm
          have fin : ∀ z : Nat, z = bt_mn w (w 12 4) k (w 11 k + bt_cm w (w 12 4) g (w 11) k) → ∀ M2, M2 = va_up M' 68 (upd (M' 68) (p + 58 + 5 * k + 3) (M' 68 (p + 58 + 5 * k + 3) + nI z)) → (∀ x : Nat, x ≠ 68 → M2 x = M x) ∧ (∀ j : Nat, (∀ k, k < w 12 1 → j ≠ p + 58 + 5 * k + 4 ∧ j ≠ p + 58 + 5 * k + 3) → M2 68 j = M 68 j) ∧ bt_pg M2 p (w 12 1) (fun k => w 11 k + bt_cm w (w 12 4) g (w 11) k) ∧ ∀ j, j < w 12 1 → M2 68 (p + 58 + 5 * j + 3) = nI (w 10 j + if j < k + 1 then bt_mn w (w 12 4) j (w 11 j + bt_cm w (w 12 4) g (w 11) j) else 0) := by
            rintro z hz M2 rfl
            refine ⟨fun x z => ?_, fun j z => ?_, fun j hj => ?_, fun j hj => ?_⟩
            · rw [bt_up_n z]; exact q1 x z
            · rw [bt_up_s, pk_un (z k hkm).2]; exact q2 j z
            · rw [bt_up_s, pk_un (by omega)]; exact q3 j hj
            · rw [bt_up_s]
              by_cases hjk : j = k
              · subst hjk
                rw [pk_us, q4 j hj, if_neg (Nat.lt_irrefl j), Nat.add_zero, nI_add, if_pos (Nat.lt_succ_self j), hz]
              · rw [pk_un (by omega), q4 j hj]
                by_cases hl : j < k
                · rw [if_pos hl, if_pos (by omega)]
                · rw [if_neg hl, if_neg (by omega)]
          refine ⟨_, rfl, p + 58 + 5 * k + 3, by simp only [bt_lit, pk_mul, nI_add], by omega, ?_⟩
          refine ⟨p, k, w 11 k + bt_cm w (w 12 4) g (w 11) k, rfl, rfl, rfl, by omega, q3 k hkm, hs1, ?_⟩
          refine ⟨fun z => ?_, fun z => ?_⟩
          · rw [bt_n0 (by omega)] at z
            refine ⟨p, w 12 2, rfl, rfl, hp, e56, ?_⟩
            refine ⟨_, rfl, p + 58 + 5 * k + 3, by simp only [bt_lit, pk_mul, nI_add], by omega, ?_⟩
            intro M2 d2
            rw [pk_mul] at d2
            obtain ⟨b1, b2, b3, b4⟩ := fin _ (by rw [bt_mn, if_neg (by omega)]) M2 d2
            exact ⟨w 12 1 - (k + 1), by omega, rfl, rfl, rfl, k + 1, _, by omega, rfl, by rw [← nI_1], b1, b2, b3, b4⟩
          · rw [bt_n0 (by omega)] at z
            refine ⟨_, rfl, p + 58 + 5 * k + 2, by simp only [bt_lit, pk_mul, nI_add], by omega, ?_⟩
            refine ⟨_, rfl, p + 58 + 5 * k + 3, by simp only [bt_lit, pk_mul, nI_add], by omega, ?_⟩
            intro M2 d2
            rw [e9, pk_mul] at d2
            obtain ⟨b1, b2, b3, b4⟩ := fin _ (by rw [bt_mn, if_pos (by omega)]) M2 d2
            exact ⟨w 12 1 - (k + 1), by omega, rfl, rfl, rfl, k + 1, _, by omega, rfl, by rw [← nI_1], b1, b2, b3, b4⟩
      refine bt_go rfl hP 60 [143] P (fun _ _ _ _ _ h => h) ?_
      refine loop _ _ _ _ _ _ ⟨rfl, rfl, rfl, 0, x9, Nat.zero_le _, rfl, rfl, a1, fun j z => a2 j (fun k hk => (z k hk).1), a3, fun j hj => ?_⟩
      rw [a2 _ (fun k hk => by omega), if_neg (by omega), Nat.add_zero]
      exact c10 j hj
    have hmk : ∀ {f : Nat → Nat}, bt_b1 f → bt_mk f (w 12 1) < 64 := fun {f} hf => by
      have := bt_mk_lt hf (w 12 1)
      have h2 : 2 ^ (w 12 1) ≤ 2 ^ 6 := Nat.pow_le_pow_right (by omega) f2
      omega
    have hnb : bt_b1 (fun k => 1 - w 11 k) := bt_b1_not
    have hlt := bt_mk_lt f18 (w 12 1)
    have ebc := bt_pc_mk hnb (n := w 12 1) (by omega)
    have hct := bt_ct1_le hnb (w 12 1)
    have e5 := r5 _ hat
    have e6 := r6 _ hat
    have e1 := r1 _ hat
    have e4 := r4 _ hat
    have hmiles := r0 _ hat
    -- by passing
    have pass : ¬ bt_lb w (w 12 4) (w 11) → ∀ x4 (y5 : Int32) x6 (y7 : Int32) x8 x9, x4 = some (.int (nI (w 0 (w 12 4)))) → P 126 [some (.ref 67), some (.int (nI p)), some (.int (nI g)), some (.int (nI (w 12 4))), x4, some (.int y5), x6, some (.int y7), x8, x9] [] M N := by
      rintro hlb x4 y5 x6 y7 x8 x9 rfl
      rw [← bt_lbB_iff] at hlb
      have hcm : ∀ k, bt_cm w (w 12 4) g (w 11) k = bt_co w (bt_us w (w 12 4) g) (w 11) k := fun k => by
        unfold bt_cm bt_co
        rw [if_neg hlb]
      refine bt_go rfl hP 60 [140] P (fun _ _ _ _ _ h => h) ?_
      refine ⟨p, w 12 4, g, w 6 (w 12 4), w 1 (w 12 4), w 4 (w 12 4), rfl, rfl, hp, rfl, by omega, rfl, hg, e6, f13 _, e1, f8 _, e4, f11 _, ?_⟩
      refine ⟨p, bt_us w (w 12 4) g, w, rfl, rfl, hp, rfl, bt_us_le hf, hw, ?_⟩
      intro M' b1 b2 b3
      have hmc : bt_mk (bt_co w (bt_us w (w 12 4) g) (w 11)) (w 12 1) = bt_mk (bt_cm w (w 12 4) g (w 11)) (w 12 1) := bt_mk_c (fun k _ => (hcm k).symm)
      have := rest M' (some (.int (nI (w 12 4)))) (some (.int y5)) y7 x8 x9 b1 b2 (fun k hk => by rw [b3 k hk]; dsimp only; rw [← hcm k])
      rw [← hmc] at this
      exact this
    -- the tractor pulls in
    have pull : bt_lb w (w 12 4) (w 11) → ∀ x4 x5 x6 (y7 : Int32) x8 x9, x4 = some (.int (nI (w 0 (w 12 4)))) → x6 = some (.int (nI (bt_mk (fun k => 1 - w 11 k) (w 12 1)))) → P 88 [some (.ref 67), some (.int (nI p)), some (.int (nI g)), some (.int (nI (w 12 4))), x4, x5, x6, some (.int y7), x8, x9] [] M N := by
      rintro hlb x4 x5 x6 y7 x8 x9 rfl rfl
      rw [← bt_lbB_iff] at hlb
      have hcm : ∀ k, bt_cm w (w 12 4) g (w 11) k = 1 - w 11 k := fun k => by
        unfold bt_cm
        rw [if_pos hlb]
      have hmc : bt_mk (fun k => 1 - w 11 k) (w 12 1) = bt_mk (bt_cm w (w 12 4) g (w 11)) (w 12 1) := bt_mk_c (fun k _ => (hcm k).symm)
      have loop : ∀ v pc L st M' N', (pc = 91 ∧ st = [] ∧ N' = N ∧ ∃ k, k ≤ w 12 1 ∧ v = w 12 1 - k ∧ L = [some (.ref 67), some (.int (nI p)), some (.int (nI g)), some (.int (nI (w 12 4))), some (.int (nI (w 0 (w 12 4)))), x5, some (.int (nI (bt_mk (fun k => 1 - w 11 k) (w 12 1)))), some (.int y7), some (.int (nI k)), x9] ∧ (∀ x : Nat, x ≠ 68 → M' x = M x) ∧ (∀ j : Nat, (∀ k, k < w 12 1 → j ≠ p + 58 + 5 * k + 4) → M' 68 j = M 68 j) ∧ ∀ j, j < k → M' 68 (p + 58 + 5 * j + 4) = 1) → P pc L st M' N' := by
        refine bt_loopP rfl hP 80 [91, 140] (fun v pc L st M' N' => (pc = 91 ∧ st = [] ∧ N' = N ∧ ∃ k, k ≤ w 12 1 ∧ v = w 12 1 - k ∧ L = [some (.ref 67), some (.int (nI p)), some (.int (nI g)), some (.int (nI (w 12 4))), some (.int (nI (w 0 (w 12 4)))), x5, some (.int (nI (bt_mk (fun k => 1 - w 11 k) (w 12 1)))), some (.int y7), some (.int (nI k)), x9] ∧ (∀ x : Nat, x ≠ 68 → M' x = M x) ∧ (∀ j : Nat, (∀ k, k < w 12 1 → j ≠ p + 58 + 5 * k + 4) → M' 68 j = M 68 j) ∧ ∀ j, j < k → M' 68 (p + 58 + 5 * j + 4) = 1)) ?_
        rintro v pc L st M' N' ⟨rfl, rfl, rfl, k, hk, rfl, rfl, q1, q2, q3⟩
        have e2 : M' 67 2 = nI (w 12 1) := by rw [q1 67 (by omega)]; exact g2
        refine ⟨fun q => ?_, fun q => ?_⟩
        · rw [e2, nI_leI (by omega) (by omega)] at q
          refine Or.inr ?_
          rw [hmc]
          refine rest M' _ _ _ _ _ q1 q2 (fun j hj => ?_)
          have := f18 j
          rw [q3 j (by omega)]
          dsimp only
          rw [hcm j, show w 11 j + (1 - w 11 j) = 1 by omega]
          rfl
        · rw [e2, nI_leI (by omega) (by omega)] at q
          refine ⟨_, rfl, p + 58 + 5 * k + 4, by simp only [bt_lit, pk_mul, nI_add], by omega, ?_⟩
          rintro _ rfl
          refine Or.inl ⟨w 12 1 - (k + 1), by omega, rfl, rfl, rfl, k + 1, by omega, rfl, by rw [← nI_1], ?_, ?_, ?_⟩
          · intro x z
            rw [bt_up_n z]; exact q1 x z
          · intro j z
            rw [bt_up_s, pk_un (z k (by omega))]; exact q2 j z
          · intro j hj
            rw [bt_up_s]
            by_cases hjk : j = k
            · rw [hjk, pk_us]
            · rw [pk_un (by omega)]; exact q3 j (by omega)
      refine bt_go rfl hP 60 [91] P (fun _ _ _ _ _ h => h) ?_
      exact loop _ _ _ _ _ _ ⟨rfl, rfl, rfl, 0, Nat.zero_le _, rfl, rfl, fun _ _ => rfl, fun _ _ => rfl, fun j hj => by omega⟩
    refine bt_go rfl hP 80 [126, 88] P (fun _ _ _ _ _ h => h) ?_
    have n5 := bt_n1 (a := w 5 (w 12 4)) (by have := f12 (w 12 4); omega)
    refine ⟨_, rfl, p + 88, by simp only [bt_lit, nI_add], by omega, ?_⟩
    refine ⟨_, rfl, p + 7 * w 12 4, by rw [g5]; simp only [bt_lit, pk_mul, nI_add], by omega, ?_⟩
    rw [g5]
    refine ⟨p, w 12 1, w 11, rfl, rfl, hp, g2, f2, f18, c11, ?_⟩
    refine ⟨_, rfl, p + 57, by simp only [bt_lit, nI_add], by omega, ?_⟩
    refine ⟨_, rfl, p + 7 * w 12 4 + 5, by simp only [bt_lit, pk_mul, nI_add], by omega, ?_⟩
    have eleft : ((1 : Int32) <<< (M 67 2 &&& 31)) - 1 &&& (nI (bt_mk (w 11) (w 12 1)) ^^^ (-1)) = nI (bt_mk (fun k => 1 - w 11 k) (w 12 1)) := by
      rw [g2, bt_ev _ (by omega), bt_notN _ (by omega) _ hlt, bt_mk_not f18]
    refine ⟨fun q => ?_, fun q => ⟨fun q2 => ?_, fun q2 => ?_⟩⟩
    · rw [e5, n5] at q
      exact pass (fun z => q z.1) _ _ _ _ _ _ (by rw [hmiles])
    · rw [g4, bt_le0 (by omega)] at q2
      exact pass (fun z => z.2.1 q2) _ _ _ _ _ _ (by rw [hmiles])
    · rw [e5, n5] at q
      rw [g4, bt_le0 (by omega)] at q2
      refine ⟨bt_mk (fun k => 1 - w 11 k) (w 12 1), eleft, by have := hmk hnb; omega, ?_⟩
      rw [ebc]
      refine ⟨fun q3 => ?_, fun q3 => ?_⟩
      · rw [g4, nI_ltI (by omega) (by omega)] at q3
        exact pass (fun z => by have := z.2.2; omega) _ _ _ _ _ _ (by rw [hmiles])
      · rw [g4, nI_ltI (by omega) (by omega)] at q3
        exact pull ⟨q, q2, by omega⟩ _ _ _ _ _ _ (by rw [hmiles]) (by rw [eleft])
  · exact False.elim h
end
section
/-! THE MODEL: pages -/
def sX6_areLeft : bt_Sp := fun as M N K => match as with
  | [.ref c, .int p] => ∃ p' a n, c = 67 ∧ p = nI p' ∧ p' ≤ 450 ∧ M 68 (p' + 88) = nI a ∧ a ≤ 8 ∧ M 67 1 = nI n ∧ n ≤ 8 ∧ K (some (.int (if a < n then 1 else 0))) M N
  | _ => False
theorem mX6_areLeft : bt_MT bt_TX6_areLeft bt_FX6 [] 2 2 sX6_areLeft := by
  intro as M N Rt h P hP
  unfold sX6_areLeft at h
  split at h
  · obtain ⟨p, a, n, rfl, rfl, hp, ha, ha8, hn, hn8, h⟩ := h
    refine bt_go0 rfl hP 30 ?_
    refine ⟨_, rfl, p + 88, by simp only [bt_lit, nI_add], by omega, ?_⟩
    refine ⟨fun q => ⟨Or.inl rfl, ?_⟩, fun q => ⟨Or.inr rfl, ?_⟩⟩
    · rw [ha, hn, nI_leI (by omega) (by omega)] at q
      rw [if_neg (by omega)] at h
      exact h
    · rw [ha, hn, nI_leI (by omega) (by omega)] at q
      rw [if_pos (by omega)] at h
      exact h
  · exact False.elim h
def sX6_ownGap : bt_Sp := fun as M N K => match as with
  | [.ref c, .int p] => ∃ p' a g, c = 67 ∧ p = nI p' ∧ p' ≤ 450 ∧ M 68 (p' + 88) = nI a ∧ a < 8 ∧ M 68 (p' + 7 * a + 2) = nI g ∧ K (some (.int (nI g))) M N
  | _ => False
theorem mX6_ownGap : bt_MT bt_TX6_ownGap bt_FX6 [] 1 2 sX6_ownGap := by
  intro as M N Rt h P hP
  unfold sX6_ownGap at h
  split at h
  · obtain ⟨p, a, g, rfl, rfl, hp, ha, ha8, hg, h⟩ := h
    refine bt_go0 rfl hP 30 ?_
    refine ⟨_, rfl, p + 88, by simp only [bt_lit, nI_add], by omega, ?_⟩
    refine ⟨_, rfl, p + 7 * a + 2, by rw [ha]; simp only [bt_lit, pk_mul, nI_add], by omega, ?_⟩
    rw [← hg] at h
    exact h
  · exact False.elim h
theorem bt_mW_copy {M M' : bt_M} {p q : Nat} {w : bt_W} (hw : bt_mW M p w) (h1 : ∀ x : Nat, x ≠ 68 → M' x = M x) (h2 : ∀ j : Nat, j < 90 → M' 68 (q + j) = M 68 (p + j)) : bt_mW M' q w := by
  obtain ⟨hf, g1, g2, g3, g4, g5, g6, r0, r1, r2, r3, r4, r5, r6, c7, c8, c9, c10, c11⟩ := hw
  have hn := hf.1
  have hm := hf.2.1
  refine ⟨hf, ?_, ?_, ?_, ?_, ?_, ?_, ?_, ?_, ?_, ?_, ?_, ?_, ?_, ?_, ?_, ?_, ?_, ?_⟩
  · rw [h1 67 (by omega)]; exact g1
  · rw [h1 67 (by omega)]; exact g2
  · rw [h2 56 (by omega)]; exact g3
  · rw [h2 57 (by omega)]; exact g4
  · rw [h2 88 (by omega)]; exact g5
  · rw [h2 89 (by omega)]; exact g6
  · intro i hi; rw [h2 (7 * i) (by omega)]; exact r0 i hi
  · intro i hi; rw [show q + 7 * i + 1 = q + (7 * i + 1) by omega, h2 (7 * i + 1) (by omega)]; exact r1 i hi
  · intro i hi; rw [show q + 7 * i + 2 = q + (7 * i + 2) by omega, h2 (7 * i + 2) (by omega)]; exact r2 i hi
  · intro i hi; rw [show q + 7 * i + 3 = q + (7 * i + 3) by omega, h2 (7 * i + 3) (by omega)]; exact r3 i hi
  · intro i hi; rw [show q + 7 * i + 4 = q + (7 * i + 4) by omega, h2 (7 * i + 4) (by omega)]; exact r4 i hi
  · intro i hi; rw [show q + 7 * i + 5 = q + (7 * i + 5) by omega, h2 (7 * i + 5) (by omega)]; exact r5 i hi
  · intro i hi; rw [show q + 7 * i + 6 = q + (7 * i + 6) by omega, h2 (7 * i + 6) (by omega)]; exact r6 i hi
  · intro i hi; rw [show q + 58 + 5 * i = q + (58 + 5 * i) by omega, h2 (58 + 5 * i) (by omega), ← Nat.add_assoc]; exact c7 i hi
  · intro i hi; rw [show q + 58 + 5 * i + 1 = q + (58 + 5 * i + 1) by omega, h2 _ (by omega), show p + (58 + 5 * i + 1) = p + 58 + 5 * i + 1 by omega]; exact c8 i hi
  · intro i hi; rw [show q + 58 + 5 * i + 2 = q + (58 + 5 * i + 2) by omega, h2 _ (by omega), show p + (58 + 5 * i + 2) = p + 58 + 5 * i + 2 by omega]; exact c9 i hi
  · intro i hi; rw [show q + 58 + 5 * i + 3 = q + (58 + 5 * i + 3) by omega, h2 _ (by omega), show p + (58 + 5 * i + 3) = p + 58 + 5 * i + 3 by omega]; exact c10 i hi
  · intro i hi; rw [show q + 58 + 5 * i + 4 = q + (58 + 5 * i + 4) by omega, h2 _ (by omega), show p + (58 + 5 * i + 4) = p + 58 + 5 * i + 4 by omega]; exact c11 i hi
theorem bt_mW_kept {M M' : bt_M} {p : Nat} {w : bt_W} (hw : bt_mW M p w) (h1 : ∀ x : Nat, x ≠ 68 → M' x = M x) (h2 : ∀ j : Nat, p ≤ j → j < p + 90 → M' 68 j = M 68 j) : bt_mW M' p w := bt_mW_copy hw h1 (fun j hj => h2 _ (by omega) (by omega))
theorem bt_mW_fr {M M' : bt_M} {p q : Nat} {w : bt_W} (hw : bt_mW M p w) (h : bt_mfr q M M') (hpq : p + 90 ≤ q ∨ q + 90 ≤ p) : bt_mW M' p w := bt_mW_kept hw h.1 (fun j z1 z2 => h.2 j (by omega))
theorem bt_mfr_rf {p : Nat} {M : bt_M} : bt_mfr p M M := ⟨fun _ _ => rfl, fun _ _ => rfl⟩
theorem bt_mfr_tr {p : Nat} {M M' M2 : bt_M} (h1 : bt_mfr p M M') (h2 : bt_mfr p M' M2) : bt_mfr p M M2 := ⟨fun x z => (h2.1 x z).trans (h1.1 x z), fun j z => (h2.2 j z).trans (h1.2 j z)⟩
def sX6_copies : bt_Sp := fun as M N K => match as with
  | [.ref c, .int p, .int q] => ∃ p' q', c = 67 ∧ p = nI p' ∧ p' ≤ 450 ∧ q = nI q' ∧ q' ≤ 450 ∧ (p' + 90 ≤ q' ∨ q' + 90 ≤ p') ∧ ∀ M', bt_mfr q' M M' → (∀ j : Nat, j < 90 → M' 68 (q' + j) = M 68 (p' + j)) → K none M' N
  | _ => False
theorem mX6_copies : bt_MT bt_TX6_copies bt_FX6 [] 0 4 sX6_copies := by
  intro as M N Rt h P hP
  unfold sX6_copies at h
  split at h
  · obtain ⟨p, q, rfl, rfl, hp, rfl, hq, hpq, h⟩ := h
    have loop : ∀ v pc L st M' N', (pc = 2 ∧ st = [] ∧ N' = N ∧ ∃ k, k ≤ 90 ∧ v = 90 - k ∧ L = [some (.ref 67), some (.int (nI p)), some (.int (nI q)), some (.int (nI k))] ∧ bt_mfr q M M' ∧ ∀ j : Nat, j < k → M' 68 (q + j) = M 68 (p + j)) → P pc L st M' N' := by
      refine bt_loop rfl hP 60 [2] (fun v pc L st M' N' => (pc = 2 ∧ st = [] ∧ N' = N ∧ ∃ k, k ≤ 90 ∧ v = 90 - k ∧ L = [some (.ref 67), some (.int (nI p)), some (.int (nI q)), some (.int (nI k))] ∧ bt_mfr q M M' ∧ ∀ j : Nat, j < k → M' 68 (q + j) = M 68 (p + j))) ?_
      rintro v pc L st M' N' ⟨rfl, rfl, rfl, k, hk, rfl, rfl, hfr, q1⟩
      refine ⟨fun z => ?_, fun z => ?_⟩
      · rw [bt_lit, nI_leI (by omega) (by omega)] at z
        exact h M' hfr (fun j hj => q1 j (by omega))
      · rw [bt_lit, nI_leI (by omega) (by omega)] at z
        refine ⟨_, rfl, p + k, by rw [nI_add], by omega, ?_⟩
        refine ⟨_, rfl, q + k, by rw [nI_add], by omega, ?_⟩
        rintro _ rfl
        refine ⟨90 - (k + 1), by omega, rfl, rfl, rfl, k + 1, by omega, rfl, by rw [← nI_1], ⟨fun x z => ?_, fun j z => ?_⟩, fun j hj => ?_⟩
        · rw [bt_up_n z]; exact hfr.1 x z
        · rw [bt_up_s, pk_un (by omega)]; exact hfr.2 j z
        · rw [bt_up_s]
          by_cases hjk : j = k
          · rw [hjk, pk_us]
            exact hfr.2 _ (by omega)
          · rw [pk_un (by omega)]; exact q1 j (by omega)
    refine bt_go rfl hP 60 [2] P (fun _ _ _ _ _ h => h) ?_
    exact loop _ _ _ _ _ _ ⟨rfl, rfl, rfl, 0, by omega, rfl, rfl, bt_mfr_rf, fun j hj => by omega⟩
  · exact False.elim h
def bt_CX6_triesFrom : bt_C := [(199, 1, 3, sX6_copies), (187, 1, 2, sX6_areLeft), (196, 1, 2, sX6_ownGap), (190, 1, 3, sX6_driveOn)]
def sX6_triesFrom : bt_Sp := fun as M N K => match as with
  | [.ref c, .int p] => ∃ p' w, c = 67 ∧ p = nI p' ∧ (p' + 90 ≤ 360 ∨ p' = 450) ∧ bt_mW M p' w ∧ ∀ M', bt_mfr 360 M M' → bt_mW M' 360 (bt_de w) → K none M' N
  | _ => False
theorem mX6_triesFrom : bt_MT bt_TX6_triesFrom bt_FX6 bt_CX6_triesFrom 0 2 sX6_triesFrom := by
  intro as M N Rt h P hP
  unfold sX6_triesFrom at h
  split at h
  · obtain ⟨p, w, rfl, rfl, hp, hw, h⟩ := h
    have hf := hw.1
    have f1 := hf.1
    have f3 := hf.2.2.1
    have f9 := hf.2.2.2.2.2.2.2.2.1
    have loop : ∀ v pc L st M' N', (pc = 8 ∧ st = [] ∧ N' = N ∧ ∃ j, w 12 4 + j ≤ w 12 0 ∧ v = w 12 0 - (w 12 4 + j) ∧ L = [some (.ref 67), some (.int (nI p))] ∧ bt_mfr 360 M M' ∧ bt_mW M' 360 (bt_dn w (w 2) j)) → P pc L st M' N' := by
      refine bt_loop rfl hP 60 [8] (fun v pc L st M' N' => (pc = 8 ∧ st = [] ∧ N' = N ∧ ∃ j, w 12 4 + j ≤ w 12 0 ∧ v = w 12 0 - (w 12 4 + j) ∧ L = [some (.ref 67), some (.int (nI p))] ∧ bt_mfr 360 M M' ∧ bt_mW M' 360 (bt_dn w (w 2) j))) ?_
      rintro v pc L st M' N' ⟨rfl, rfl, rfl, j, hj, rfl, rfl, hfr, hw'⟩
      obtain ⟨d1, d2, d3⟩ := bt_dn_12 w (w 2) j
      have e1 := hw'.2.1
      rw [d2 0 (by omega) (by omega)] at e1
      have e88 := hw'.2.2.2.2.2.1
      rw [d1] at e88
      have eg := hw'.2.2.2.2.2.2.2.2.2.1
      rw [d2 0 (by omega) (by omega), d3 2 (by omega)] at eg
      refine ⟨360, w 12 4 + j, w 12 0, rfl, rfl, by omega, e88, by omega, e1, f1, ?_⟩
      by_cases hl : w 12 4 + j < w 12 0
      · rw [if_pos hl]
        refine ⟨fun z => absurd z (by decide), fun _ => ?_⟩
        refine ⟨360, w 12 4 + j, w 2 (w 12 4 + j), rfl, rfl, by omega, e88, by omega, eg _ hl, ?_⟩
        refine ⟨360, w 2 (w 12 4 + j), _, rfl, rfl, by omega, rfl, f9 _, hw', ?_, ?_⟩
        · rw [d1, d2 0 (by omega) (by omega)]; exact hl
        · intro M2 b1 b2
          exact ⟨w 12 0 - (w 12 4 + (j + 1)), by omega, rfl, rfl, rfl, j + 1, by omega, rfl, rfl, bt_mfr_tr hfr b2, b1⟩
      · rw [if_neg hl]
        refine ⟨fun _ => ?_, fun z => absurd rfl z⟩
        have hj2 : j = w 12 0 - w 12 4 := by omega
        subst hj2
        exact h M' hfr hw'
    refine bt_go rfl hP 60 [8] P (fun _ _ _ _ _ h => h) ?_
    refine ⟨p, 360, rfl, rfl, by omega, rfl, by omega, by omega, fun M' b1 b2 => ?_⟩
    exact loop _ _ _ _ _ _ ⟨rfl, rfl, rfl, 0, by omega, rfl, rfl, b1, bt_mW_copy hw b1.1 b2⟩
  · exact False.elim h
def sX6_timesOn : bt_Sp := fun as M N K => match as with
  | [.ref c, .int p] => ∃ p' w, c = 67 ∧ p = nI p' ∧ p' ≤ 450 ∧ bt_mW M p' w ∧ K (some (.int (nI (bt_st w)))) M N
  | _ => False
theorem mX6_timesOn : bt_MT bt_TX6_timesOn bt_FX6 [] 1 4 sX6_timesOn := by
  intro as M N Rt h P hP
  unfold sX6_timesOn at h
  split at h
  · obtain ⟨p, w, rfl, rfl, hp, hw, h⟩ := h
    obtain ⟨hf, g1, g2, g3, g4, g5, g6, r0, r1, r2, r3, r4, r5, r6, c7, c8, c9, c10, c11⟩ := id hw
    have f2 := hf.2.1
    have loop : ∀ v pc L st M' N', (pc = 4 ∧ st = [] ∧ M' = M ∧ N' = N ∧ ∃ k, k ≤ w 12 1 ∧ v = w 12 1 - k ∧ L = [some (.ref 67), some (.int (nI p)), some (.int (nI (bt_sumk w k))), some (.int (nI k))]) → P pc L st M' N' := by
      refine bt_loop rfl hP 60 [4] (fun v pc L st M' N' => (pc = 4 ∧ st = [] ∧ M' = M ∧ N' = N ∧ ∃ k, k ≤ w 12 1 ∧ v = w 12 1 - k ∧ L = [some (.ref 67), some (.int (nI p)), some (.int (nI (bt_sumk w k))), some (.int (nI k))])) ?_
      rintro v pc L st M' N' ⟨rfl, rfl, rfl, rfl, k, hk, rfl, rfl⟩
      refine ⟨fun q => ?_, fun q => ?_⟩
      · rw [g2, nI_leI (by omega) (by omega)] at q
        have : k = w 12 1 := by omega
        subst this
        exact h
      · rw [g2, nI_leI (by omega) (by omega)] at q
        refine ⟨_, rfl, p + 58 + 5 * k + 3, by simp only [bt_lit, pk_mul, nI_add], by omega, ?_⟩
        refine ⟨w 12 1 - (k + 1), by omega, rfl, rfl, rfl, rfl, k + 1, by omega, rfl, ?_⟩
        rw [c10 k (by omega), nI_add, ← nI_1 k]
        rfl
    refine bt_go rfl hP 60 [4] P (fun _ _ _ _ _ h => h) ?_
    exact loop _ _ _ _ _ _ ⟨rfl, rfl, rfl, rfl, 0, Nat.zero_le _, rfl, rfl⟩
  · exact False.elim h
def sX6_milesLeft : bt_Sp := fun as M N K => match as with
  | [.ref c] => ∃ w, c = 67 ∧ bt_mW M 0 w ∧ K (some (.int (nI (bt_ml w (w 12 4) (w 12 0 - w 12 4))))) M N
  | _ => False
theorem mX6_milesLeft : bt_MT bt_TX6_milesLeft bt_FX6 [] 1 3 sX6_milesLeft := by
  intro as M N Rt h P hP
  unfold sX6_milesLeft at h
  split at h
  · obtain ⟨w, rfl, hw, h⟩ := h
    obtain ⟨hf, g1, g2, g3, g4, g5, g6, r0, r1, r2, r3, r4, r5, r6, c7, c8, c9, c10, c11⟩ := id hw
    have f1 := hf.1
    have f3 := hf.2.2.1
    have loop : ∀ v pc L st M' N', (pc = 10 ∧ st = [] ∧ M' = M ∧ N' = N ∧ ∃ j, w 12 4 + j ≤ w 12 0 ∧ v = w 12 0 - (w 12 4 + j) ∧ L = [some (.ref 67), some (.int (nI (bt_ml w (w 12 4) j))), some (.int (nI (w 12 4 + j)))]) → P pc L st M' N' := by
      refine bt_loop rfl hP 60 [10] (fun v pc L st M' N' => (pc = 10 ∧ st = [] ∧ M' = M ∧ N' = N ∧ ∃ j, w 12 4 + j ≤ w 12 0 ∧ v = w 12 0 - (w 12 4 + j) ∧ L = [some (.ref 67), some (.int (nI (bt_ml w (w 12 4) j))), some (.int (nI (w 12 4 + j)))])) ?_
      rintro v pc L st M' N' ⟨rfl, rfl, rfl, rfl, j, hj, rfl, rfl⟩
      refine ⟨fun q => ?_, fun q => ?_⟩
      · rw [g1, nI_leI (by omega) (by omega)] at q
        have hj2 : j = w 12 0 - w 12 4 := by omega
        subst hj2
        exact h
      · rw [g1, nI_leI (by omega) (by omega)] at q
        refine ⟨_, rfl, 7 * (w 12 4 + j), by simp only [bt_lit, pk_mul], by omega, ?_⟩
        refine ⟨w 12 0 - (w 12 4 + (j + 1)), by omega, rfl, rfl, rfl, rfl, j + 1, by omega, rfl, ?_⟩
        have e := r0 (w 12 4 + j) (by omega)
        rw [Nat.zero_add] at e
        rw [e, nI_add, nI_1, Nat.add_assoc]
        rfl
    refine bt_go rfl hP 60 [10] P (fun _ _ _ _ _ h => h) ?_
    refine ⟨_, rfl, 88, rfl, by omega, ?_⟩
    refine loop _ _ _ _ _ _ ⟨rfl, rfl, rfl, rfl, 0, by omega, rfl, ?_⟩
    rw [Nat.zero_add] at g5
    rw [g5]
    rfl
  · exact False.elim h
end
section
/-! THE STATE: live world, images, numbers, rows, sheets. u: 0 bytes on the tape, 1 fault, 2 torn, 3 4 images kept, 5 seen, 6.. sizes of sheets and 1 (0: nothing), 10.. their lanes; z: 0 the tape, 1 2 who was seen when; q: cells of sheets -/
abbrev bt_S : Type := bt_W × (Nat → bt_W) × (Nat → Nat) × (Nat → Nat → Nat) × (Nat → Nat → Int32)
def bt_sW (w : bt_W) (im : Nat → bt_W) (u : Nat → Nat) (z : Nat → Nat → Nat) : Prop := u 0 ≤ 160 ∧ (∀ j, z 0 j < 128) ∧ u 1 ≤ 6 ∧ u 2 ≤ 4 ∧ u 3 ≤ 1 ∧ u 4 ≤ 1 ∧ u 5 ≤ 6 ∧ (∀ k, k < 4 → u (6 + k) ≤ 41 ∧ u (10 + k) ≤ 2) ∧ (∀ n, n < u 5 → z 1 n < w 12 1 ∧ z 2 n ≤ 999) ∧ (u 3 = 1 → im 0 12 0 = w 12 0 ∧ im 0 12 1 = w 12 1) ∧ (u 4 = 1 → im 1 12 0 = w 12 0 ∧ im 1 12 1 = w 12 1)
def bt_cI (M : bt_M) (S : bt_S) : Prop := match S with
  | (w, im, u, z, q) => bt_cW M 2 w ∧ bt_sW w im u z ∧ M 0 8 = nI (u 0) ∧ (∀ j, j < u 0 → M 1 j = nI (z 0 j)) ∧ M 0 9 = nI (u 1) ∧ M 0 10 = nI (u 3 + 2 * u 4) ∧ M 0 11 = nI (u 2) ∧ (u 3 = 1 → bt_cW M 22 (im 0)) ∧ (u 4 = 1 → bt_cW M 31 (im 1)) ∧ (∀ k, k < 4 → M (41 + 2 * k) 2 = nI (u (6 + k)) - 1 ∧ M (41 + 2 * k) 1 = nI (u (10 + k)) ∧ ∀ j, j < 40 → M (42 + 2 * k) j = q k j) ∧ M 49 5 = nI (u 5) ∧ ∀ n, n < u 5 → M 50 n = nI (z 1 n) ∧ M 51 n = nI (z 2 n)
def bt_cuts : List Nat := [0, 4, 8, 12, 17, 21, 25, 28, 33, 36, 40, 46, 51]
def bt_lets : List Nat := [114, 111, 97, 100, 104, 105, 108, 108, 111, 100, 100, 115, 108, 97, 121, 98, 121, 108, 97, 110, 101, 115, 108, 111, 119, 99, 97, 114, 110, 101, 118, 101, 114, 111, 110, 101, 98, 111, 108, 100, 102, 111, 108, 108, 111, 119, 116, 105, 109, 105, 100]
def bt_mI (M : bt_M) (S : bt_S) : Prop := match S with
  | (w, im, u, z, q) => bt_mW M 0 w ∧ bt_sW w im u z ∧ M 67 10 = nI (u 0) ∧ (∀ j, j < u 0 → M 71 j = nI (z 0 j)) ∧ M 67 11 = nI (u 1) ∧ M 67 26 = nI (u 2) ∧ M 75 0 = nI (u 3) ∧ M 75 1 = nI (u 4) ∧ (u 3 = 1 → bt_mW M 90 (im 0)) ∧ (u 4 = 1 → bt_mW M 180 (im 1)) ∧ (∀ k, k < 4 → M 76 k = (if u (6 + k) = 0 then -4 else nI (u (10 + k))) ∧ (u (6 + k) ≠ 0 → M 77 k = nI (u (6 + k) - 1)) ∧ ∀ j, j < 40 → M 78 (40 * k + j) = q k j) ∧ M 67 21 = nI (u 5) ∧ (∀ n, n < u 5 → M 74 (2 * n) = nI (z 1 n) ∧ M 74 (2 * n + 1) = nI (z 2 n)) ∧ (∀ j, j < 13 → M 72 j = nI (bt_at bt_cuts j 0)) ∧ ∀ j, j < 51 → M 73 j = nI (bt_at bt_lets j 0)
abbrev bt_cfr (M M' : bt_M) : Prop := ∀ x : Nat, 67 ≤ x → M' x = M x
abbrev bt_mfx (M M' : bt_M) : Prop := ∀ x : Nat, x < 67 → M' x = M x
abbrev bt_fn : Type := List Value → bt_S → Option (Value × bt_S)
def bt_spC (f : bt_fn) : bt_Sp := fun as M N K => match as with
  | .ref c :: t => c = 0 ∧ ∃ S r S', bt_cI M S ∧ f t S = some (r, S') ∧ ∀ M' N', bt_cfr M M' → bt_cI M' S' → K (some r) M' N'
  | _ => False
def bt_spM (f : bt_fn) : bt_Sp := fun as M N K => match as with
  | .ref c :: t => c = 67 ∧ ∃ S r S', bt_mI M S ∧ f t S = some (r, S') ∧ ∀ M', bt_mfx M M' → bt_mI M' S' → K (some r) M' N
  | _ => False
theorem bt_spC_e {f : bt_fn} {as : List Value} {M : bt_M} {N : bt_N} {K : bt_R} (h : bt_spC f as M N K) : ∃ t S r S', as = .ref 0 :: t ∧ bt_cI M S ∧ f t S = some (r, S') ∧ ∀ M' N', bt_cfr M M' → bt_cI M' S' → K (some r) M' N' := by
  unfold bt_spC at h
  split at h
  · obtain ⟨rfl, S, r, S', h1, h2, h3⟩ := h
    exact ⟨_, S, r, S', rfl, h1, h2, h3⟩
  · exact False.elim h
theorem bt_spM_e {f : bt_fn} {as : List Value} {M : bt_M} {N : bt_N} {K : bt_R} (h : bt_spM f as M N K) : ∃ t S r S', as = .ref 67 :: t ∧ bt_mI M S ∧ f t S = some (r, S') ∧ ∀ M', bt_mfx M M' → bt_mI M' S' → K (some r) M' N := by
  unfold bt_spM at h
  split at h
  · obtain ⟨rfl, S, r, S', h1, h2, h3⟩ := h
    exact ⟨_, S, r, S', rfl, h1, h2, h3⟩
  · exact False.elim h
theorem bt_cW_kept {M M' : bt_M} {c : Nat} {w : bt_W} (h : bt_cW M c w) (hx : ∀ x : Nat, c ≤ x → x ≤ c + 8 → M' x = M x) : bt_cW M' c w := bt_cW_copy h (fun f _ _ => by rw [hx c (by omega) (by omega)]) (fun r _ _ j _ => by rw [hx _ (by omega) (by omega)]) (fun r _ _ j _ => by rw [hx _ (by omega) (by omega)])
/-- the class's state lies in these cells -/
theorem bt_cI_same {M M' : bt_M} {S : bt_S} (h : bt_cI M S) (h1 : ∀ x : Nat, (x ≤ 10 ∨ (21 ≤ x ∧ x ≤ 48) ∨ x = 50 ∨ x = 51) → M' x = M x) (h2 : M' 49 5 = M 49 5) : bt_cI M' S := by
  obtain ⟨w, im, u, z, q⟩ := S
  obtain ⟨a1, a2, a3, a4, a5, a6, a7, a8, a9, a10, a11, a12⟩ := h
  refine ⟨bt_cW_kept a1 (fun x _ _ => h1 x (by omega)), a2, ?_, ?_, ?_, ?_, ?_, fun z => bt_cW_kept (a8 z) (fun x _ _ => h1 x (by omega)), fun z => bt_cW_kept (a9 z) (fun x _ _ => h1 x (by omega)), ?_, ?_, ?_⟩
  · rw [h1 0 (by omega)]; exact a3
  · rw [h1 1 (by omega)]; exact a4
  · rw [h1 0 (by omega)]; exact a5
  · rw [h1 0 (by omega)]; exact a6
  · rw [h1 0 (by omega)]; exact a7
  · intro k hk
    rw [h1 (41 + 2 * k) (by omega), h1 (42 + 2 * k) (by omega)]; exact a10 k hk
  · rw [h2]; exact a11
  · rw [h1 50 (by omega), h1 51 (by omega)]; exact a12
/-- the live world changes -/
theorem bt_cI_live {M M' : bt_M} {w w' : bt_W} {im : Nat → bt_W} {u : Nat → Nat} {z : Nat → Nat → Nat} {q : Nat → Nat → Int32} (h : bt_cI M (w, im, u, z, q)) (hw : bt_cW M' 2 w') (hn : w' 12 0 = w 12 0 ∧ w' 12 1 = w 12 1) (h1 : ∀ x : Nat, (x ≤ 1 ∨ (21 ≤ x ∧ x ≤ 51)) → M' x = M x) : bt_cI M' (w', im, u, z, q) := by
  obtain ⟨a1, a2, a3, a4, a5, a6, a7, a8, a9, a10, a11, a12⟩ := h
  refine ⟨hw, ?_, ?_, ?_, ?_, ?_, ?_, fun z => bt_cW_kept (a8 z) (fun x _ _ => h1 x (by omega)), fun z => bt_cW_kept (a9 z) (fun x _ _ => h1 x (by omega)), ?_, ?_, ?_⟩
  · unfold bt_sW at a2 ⊢
    rw [hn.1, hn.2]
    exact a2
  · rw [h1 0 (by omega)]; exact a3
  · rw [h1 1 (by omega)]; exact a4
  · rw [h1 0 (by omega)]; exact a5
  · rw [h1 0 (by omega)]; exact a6
  · rw [h1 0 (by omega)]; exact a7
  · intro k hk
    rw [h1 (41 + 2 * k) (by omega), h1 (42 + 2 * k) (by omega)]; exact a10 k hk
  · rw [h1 49 (by omega)]; exact a11
  · rw [h1 50 (by omega), h1 51 (by omega)]; exact a12
/-- the model's state lies in cells 67 and on, pages 3 to 5 apart -/
theorem bt_mI_same {M M' : bt_M} {S : bt_S} (h : bt_mI M S) (h1 : ∀ x : Nat, 67 ≤ x → x ≠ 68 → x ≠ 69 → x ≠ 70 → M' x = M x) (h2 : ∀ j : Nat, j < 270 → M' 68 j = M 68 j) : bt_mI M' S := by
  obtain ⟨w, im, u, z, q⟩ := S
  obtain ⟨a1, a2, a3, a4, a5, a6, a7, a8, a9, a10, a11, a12, a13, a14, a15⟩ := h
  have mk : ∀ {p : Nat} {w : bt_W}, bt_mW M p w → p + 90 ≤ 270 → bt_mW M' p w := by
    intro p w hw hp
    obtain ⟨hf, g1, g2, g3, g4, g5, g6, r0, r1, r2, r3, r4, r5, r6, c7, c8, c9, c10, c11⟩ := hw
    have hn := hf.1
    have hm := hf.2.1
    refine ⟨hf, ?_, ?_, ?_, ?_, ?_, ?_, ?_, ?_, ?_, ?_, ?_, ?_, ?_, ?_, ?_, ?_, ?_, ?_⟩
    · rw [h1 67 (by omega) (by omega) (by omega) (by omega)]; exact g1
    · rw [h1 67 (by omega) (by omega) (by omega) (by omega)]; exact g2
    · rw [h2 _ (by omega)]; exact g3
    · rw [h2 _ (by omega)]; exact g4
    · rw [h2 _ (by omega)]; exact g5
    · rw [h2 _ (by omega)]; exact g6
    · intro i hi; rw [h2 _ (by omega)]; exact r0 i hi
    · intro i hi; rw [h2 _ (by omega)]; exact r1 i hi
    · intro i hi; rw [h2 _ (by omega)]; exact r2 i hi
    · intro i hi; rw [h2 _ (by omega)]; exact r3 i hi
    · intro i hi; rw [h2 _ (by omega)]; exact r4 i hi
    · intro i hi; rw [h2 _ (by omega)]; exact r5 i hi
    · intro i hi; rw [h2 _ (by omega)]; exact r6 i hi
    · intro i hi; rw [h2 _ (by omega)]; exact c7 i hi
    · intro i hi; rw [h2 _ (by omega)]; exact c8 i hi
    · intro i hi; rw [h2 _ (by omega)]; exact c9 i hi
    · intro i hi; rw [h2 _ (by omega)]; exact c10 i hi
    · intro i hi; rw [h2 _ (by omega)]; exact c11 i hi
  refine ⟨mk a1 (by omega), a2, ?_, ?_, ?_, ?_, ?_, ?_, fun z => mk (a9 z) (by omega), fun z => mk (a10 z) (by omega), ?_, ?_, ?_, ?_, ?_⟩
  · rw [h1 67 (by omega) (by omega) (by omega) (by omega)]; exact a3
  · rw [h1 71 (by omega) (by omega) (by omega) (by omega)]; exact a4
  · rw [h1 67 (by omega) (by omega) (by omega) (by omega)]; exact a5
  · rw [h1 67 (by omega) (by omega) (by omega) (by omega)]; exact a6
  · rw [h1 75 (by omega) (by omega) (by omega) (by omega)]; exact a7
  · rw [h1 75 (by omega) (by omega) (by omega) (by omega)]; exact a8
  · rw [h1 76 (by omega) (by omega) (by omega) (by omega), h1 77 (by omega) (by omega) (by omega) (by omega), h1 78 (by omega) (by omega) (by omega) (by omega)]; exact a11
  · rw [h1 67 (by omega) (by omega) (by omega) (by omega)]; exact a12
  · rw [h1 74 (by omega) (by omega) (by omega) (by omega)]; exact a13
  · rw [h1 72 (by omega) (by omega) (by omega) (by omega)]; exact a14
  · rw [h1 73 (by omega) (by omega) (by omega) (by omega)]; exact a15
/-- the model's live page changes -/
theorem bt_mI_live {M M' : bt_M} {w w' : bt_W} {im : Nat → bt_W} {u : Nat → Nat} {z : Nat → Nat → Nat} {q : Nat → Nat → Int32} (h : bt_mI M (w, im, u, z, q)) (hw : bt_mW M' 0 w') (hn : w' 12 0 = w 12 0 ∧ w' 12 1 = w 12 1) (h1 : ∀ x : Nat, 67 ≤ x → x ≠ 68 → M' x = M x) (h2 : ∀ j : Nat, 90 ≤ j → j < 270 → M' 68 j = M 68 j) : bt_mI M' (w', im, u, z, q) := by
  obtain ⟨a1, a2, a3, a4, a5, a6, a7, a8, a9, a10, a11, a12, a13, a14, a15⟩ := h
  have kp : ∀ {p : Nat} {w : bt_W}, bt_mW M p w → 90 ≤ p → p + 90 ≤ 270 → bt_mW M' p w := by
    intro p w hw hp0 hp
    obtain ⟨hf, g1, g2, g3, g4, g5, g6, r0, r1, r2, r3, r4, r5, r6, c7, c8, c9, c10, c11⟩ := hw
    have hn := hf.1
    have hm := hf.2.1
    refine ⟨hf, ?_, ?_, ?_, ?_, ?_, ?_, ?_, ?_, ?_, ?_, ?_, ?_, ?_, ?_, ?_, ?_, ?_, ?_⟩
    · rw [h1 67 (by omega) (by omega)]; exact g1
    · rw [h1 67 (by omega) (by omega)]; exact g2
    · rw [h2 _ (by omega) (by omega)]; exact g3
    · rw [h2 _ (by omega) (by omega)]; exact g4
    · rw [h2 _ (by omega) (by omega)]; exact g5
    · rw [h2 _ (by omega) (by omega)]; exact g6
    · intro i hi; rw [h2 _ (by omega) (by omega)]; exact r0 i hi
    · intro i hi; rw [h2 _ (by omega) (by omega)]; exact r1 i hi
    · intro i hi; rw [h2 _ (by omega) (by omega)]; exact r2 i hi
    · intro i hi; rw [h2 _ (by omega) (by omega)]; exact r3 i hi
    · intro i hi; rw [h2 _ (by omega) (by omega)]; exact r4 i hi
    · intro i hi; rw [h2 _ (by omega) (by omega)]; exact r5 i hi
    · intro i hi; rw [h2 _ (by omega) (by omega)]; exact r6 i hi
    · intro i hi; rw [h2 _ (by omega) (by omega)]; exact c7 i hi
    · intro i hi; rw [h2 _ (by omega) (by omega)]; exact c8 i hi
    · intro i hi; rw [h2 _ (by omega) (by omega)]; exact c9 i hi
    · intro i hi; rw [h2 _ (by omega) (by omega)]; exact c10 i hi
    · intro i hi; rw [h2 _ (by omega) (by omega)]; exact c11 i hi
  refine ⟨hw, ?_, ?_, ?_, ?_, ?_, ?_, ?_, fun z => kp (a9 z) (by omega) (by omega), fun z => kp (a10 z) (by omega) (by omega), ?_, ?_, ?_, ?_, ?_⟩
  · unfold bt_sW at a2 ⊢
    rw [hn.1, hn.2]
    exact a2
  · rw [h1 67 (by omega) (by omega)]; exact a3
  · rw [h1 71 (by omega) (by omega)]; exact a4
  · rw [h1 67 (by omega) (by omega)]; exact a5
  · rw [h1 67 (by omega) (by omega)]; exact a6
  · rw [h1 75 (by omega) (by omega)]; exact a7
  · rw [h1 75 (by omega) (by omega)]; exact a8
  · rw [h1 76 (by omega) (by omega), h1 77 (by omega) (by omega), h1 78 (by omega) (by omega)]; exact a11
  · rw [h1 67 (by omega) (by omega)]; exact a12
  · rw [h1 74 (by omega) (by omega)]; exact a13
  · rw [h1 72 (by omega) (by omega)]; exact a14
  · rw [h1 73 (by omega) (by omega)]; exact a15
end
section
/-! CHANGES OF A WORLD -/
def bt_w1 (w : bt_W) (f k v : Nat) : bt_W := fun f' k' => if f' = f ∧ k' = k then v else w f' k'
theorem bt_w1_n {w : bt_W} {f k v f' : Nat} (h : f' ≠ f) : bt_w1 w f k v f' = w f' := by
  funext k'
  simp [bt_w1, h]
theorem bt_w1_s {w : bt_W} {f k v k' : Nat} : bt_w1 w f k v f k' = if k' = k then v else w f k' := by
  simp [bt_w1]
def bt_bnd : List Nat := [9, 9, 9, 10, 1, 1, 1, 4, 9, 5]
theorem bt_w1_le {w : bt_W} {f k v B : Nat} (h : ∀ i, w f i ≤ B) (hv : v ≤ B) : ∀ i, bt_w1 w f k v f i ≤ B := fun i => by
  rw [bt_w1_s]
  split
  · exact hv
  · exact h i
theorem bt_wf_w1 {w : bt_W} {f k v : Nat} (h : bt_wf w) (hf : f < 10) (hv : v ≤ bt_at bt_bnd f 0) : bt_wf (bt_w1 w f k v) := by
  obtain ⟨f1, f2, f3, f4, f5, f6, f7, f8, f9, f10, f11, f12, f13, f14, f15, f16, f17, f18⟩ := h
  have e12 : bt_w1 w f k v 12 = w 12 := bt_w1_n (by omega)
  have e10 : bt_w1 w f k v 10 = w 10 := bt_w1_n (by omega)
  have e11 : bt_w1 w f k v 11 = w 11 := bt_w1_n (by omega)
  unfold bt_wf
  rw [e12, e10, e11]
  have key : ∀ g B, (∀ i, w g i ≤ B) → (g = f → v ≤ B) → ∀ i, bt_w1 w f k v g i ≤ B := by
    intro g B h1 h2
    by_cases e : g = f
    · subst e
      exact bt_w1_le h1 (h2 rfl)
    · rw [bt_w1_n e]; exact h1
  refine ⟨f1, f2, f3, f4, f5, f6, key 0 9 f7 ?_, key 1 9 f8 ?_, key 2 9 f9 ?_, key 3 10 f10 ?_, key 4 1 f11 ?_, key 5 1 f12 ?_, key 6 1 f13 ?_, key 7 4 f14 ?_, key 8 9 f15 ?_, key 9 5 f16 ?_, f17, f18⟩ <;> (rintro rfl; exact hv)
/-- a row of the class's world is written -/
theorem bt_cW_row {M M' : bt_M} {c f r k v : Nat} {w : bt_W} (hw : bt_cW M c w) (hv : v ≤ bt_at bt_bnd f 0) (hfr : (f = 0 ∧ r = 1) ∨ (f = 1 ∧ r = 2) ∨ (f = 2 ∧ r = 3) ∨ (f = 3 ∧ r = 4) ∨ (f = 7 ∧ r = 5) ∨ (f = 8 ∧ r = 6) ∨ (f = 9 ∧ r = 7)) (h1 : ∀ x : Nat, x ≠ c + r → M' x = M x) (h2 : ∀ i, M' (c + r) i = if i = k then nI v else M (c + r) i) : bt_cW M' c (bt_w1 w f k v) := by
  obtain ⟨hf, g8, g9, g10, g11, g12, g13, g14, g15, g16, g17, r1, r2, r3, r4, r5, r6, r7, r8⟩ := hw
  have hwf := bt_wf_w1 (k := k) hf (by omega) hv
  have hc := h1 c (by omega)
  have e12 : bt_w1 w f k v 12 = w 12 := bt_w1_n (by omega)
  have e4 : bt_w1 w f k v 4 = w 4 := bt_w1_n (by omega)
  have e5 : bt_w1 w f k v 5 = w 5 := bt_w1_n (by omega)
  have e6 : bt_w1 w f k v 6 = w 6 := bt_w1_n (by omega)
  have e11 : bt_w1 w f k v 11 = w 11 := bt_w1_n (by omega)
  have key : ∀ g s, (g = f ↔ s = r) → ∀ n, (∀ i, i < n → M (c + s) i = nI (w g i)) → ∀ i, i < n → M' (c + s) i = nI (bt_w1 w f k v g i) := by
    intro g s hgs n hr i hi
    by_cases e : g = f
    · have e2 := hgs.mp e
      subst e2
      subst e
      rw [h2 i, bt_w1_s]
      split
      · rfl
      · exact hr i hi
    · rw [h1 _ (fun z => e (hgs.mpr (by omega))), bt_w1_n e]
      exact hr i hi
  refine ⟨hwf, ?_, ?_, ?_, ?_, ?_, ?_, ?_, ?_, ?_, ?_, ?_, ?_, ?_, ?_, ?_, ?_, ?_, ?_⟩
  · rw [hc, e12]; exact g8
  · rw [hc, e12, e4]; exact g9
  · rw [hc, e12, e5]; exact g10
  · rw [hc, e12, e6]; exact g11
  · rw [hc, e12]; exact g12
  · rw [hc, e12, e11]; exact g13
  · rw [hc, e12]; exact g14
  · rw [hc, e12]; exact g15
  · rw [hc, e12]; exact g16
  · rw [hc, e12]; exact g17
  · rw [e12]; exact key 0 1 (by omega) _ r1
  · rw [e12]; exact key 1 2 (by omega) _ r2
  · rw [e12]; exact key 2 3 (by omega) _ r3
  · rw [e12]; exact key 3 4 (by omega) _ r4
  · rw [e12]; exact key 7 5 (by omega) _ r5
  · rw [e12]; exact key 8 6 (by omega) _ r6
  · rw [e12]; exact key 9 7 (by omega) _ r7
  · rw [e12]; exact key 10 8 (by omega) _ r8
theorem bt_mk_upd (f : Nat → Nat) (i v : Nat) : ∀ n, i < n → bt_mk (fun k => if k = i then v else f k) n + f i * 2 ^ i = bt_mk f n + v * 2 ^ i
  | 0, h => by omega
  | n + 1, h => by
    simp only [bt_mk]
    by_cases e : n = i
    · subst e
      rw [if_pos rfl, bt_mk_c (f := fun k => if k = n then v else f k) (g := f) (fun k hk => if_neg (by omega))]
      omega
    · have := bt_mk_upd f i v n (by omega)
      rw [if_neg e]
      omega
theorem bt_setb1 : ∀ i, i < 8 → ∀ a, a < 256 → nI a ||| ((1 : Int32) <<< (nI i &&& 31)) = nI (if a / 2 ^ i % 2 = 1 then a else a + 2 ^ i) := by decide +kernel
theorem bt_setb0 : ∀ i, i < 8 → ∀ a, a < 256 → nI a &&& (((1 : Int32) <<< (nI i &&& 31)) ^^^ (-1)) = nI (if a / 2 ^ i % 2 = 1 then a - 2 ^ i else a) := by decide +kernel
/-- a bit of a mask is set or taken away -/
theorem bt_setb {f : Nat → Nat} (h : bt_b1 f) {n i : Nat} (hn : n ≤ 8) (hi : i < n) (b : Int32) : (if b = 0 then nI (bt_mk f n) &&& (((1 : Int32) <<< (nI i &&& 31)) ^^^ (-1)) else nI (bt_mk f n) ||| ((1 : Int32) <<< (nI i &&& 31))) = nI (bt_mk (fun k => if k = i then (if b = 0 then 0 else 1) else f k) n) := by
  have h1 := bt_mk_lt h n
  have h2 : 2 ^ n ≤ 2 ^ 8 := Nat.pow_le_pow_right (by omega) hn
  have hb := bt_mk_bit h n i
  rw [if_pos hi] at hb
  have hf := h i
  by_cases e : b = 0
  · have hu := bt_mk_upd f i 0 n hi
    simp only [if_pos e]
    rw [bt_setb0 i (by omega) _ (by omega), hb]
    congr 1
    by_cases hf1 : f i = 1
    · rw [if_pos hf1]
      rw [hf1] at hu
      omega
    · have hf0 : f i = 0 := by omega
      rw [if_neg hf1]
      rw [hf0] at hu
      omega
  · have hu := bt_mk_upd f i 1 n hi
    simp only [if_neg e]
    rw [bt_setb1 i (by omega) _ (by omega), hb]
    congr 1
    by_cases hf1 : f i = 1
    · rw [if_pos hf1]
      rw [hf1] at hu
      omega
    · have hf0 : f i = 0 := by omega
      rw [if_neg hf1]
      rw [hf0] at hu
      omega
/-- a mask of the class's world is written -/
theorem bt_cW_mask {M M' : bt_M} {c f s k v : Nat} {w : bt_W} (hw : bt_cW M c w) (hv : v ≤ 1) (hfs : (f = 4 ∧ s = 9) ∨ (f = 5 ∧ s = 10) ∨ (f = 6 ∧ s = 11)) (h1 : ∀ x : Nat, x ≠ c → M' x = M x) (h2 : ∀ i, i ≠ s → M' c i = M c i) (h3 : M' c s = nI (bt_mk (fun j => if j = k then v else w f j) (w 12 0))) : bt_cW M' c (bt_w1 w f k v) := by
  obtain ⟨hf, g8, g9, g10, g11, g12, g13, g14, g15, g16, g17, r1, r2, r3, r4, r5, r6, r7, r8⟩ := hw
  have hwf := bt_wf_w1 (k := k) (v := v) hf (show f < 10 by omega) (by rcases hfs with ⟨rfl, _⟩ | ⟨rfl, _⟩ | ⟨rfl, _⟩ <;> exact hv)
  have en : ∀ g, g ≠ f → bt_w1 w f k v g = w g := fun g hg => bt_w1_n hg
  have e12 := en 12 (by omega)
  have hm : M' c s = nI (bt_mk (bt_w1 w f k v f) (w 12 0)) := by
    rw [h3]
    congr 1
    exact bt_mk_c (fun j _ => bt_w1_s.symm)
  have key : ∀ g t, (g = f ↔ t = s) → M c t = nI (bt_mk (w g) (w 12 0)) → M' c t = nI (bt_mk (bt_w1 w f k v g) (w 12 0)) := by
    intro g t hgt h
    by_cases e : g = f
    · have e2 := hgt.mp e
      subst e2
      subst e
      exact hm
    · rw [h2 t (fun z => e (hgt.mpr z)), en g e]
      exact h
  refine ⟨hwf, ?_, ?_, ?_, ?_, ?_, ?_, ?_, ?_, ?_, ?_, ?_, ?_, ?_, ?_, ?_, ?_, ?_, ?_⟩
  · rw [h2 8 (by omega), e12]; exact g8
  · rw [e12]; exact key 4 9 (by omega) g9
  · rw [e12]; exact key 5 10 (by omega) g10
  · rw [e12]; exact key 6 11 (by omega) g11
  · rw [h2 12 (by omega), e12]; exact g12
  · rw [h2 13 (by omega), e12, en 11 (by omega)]; exact g13
  · rw [h2 14 (by omega), e12]; exact g14
  · rw [h2 15 (by omega), e12]; exact g15
  · rw [h2 16 (by omega), e12]; exact g16
  · rw [h2 17 (by omega), e12]; exact g17
  · rw [h1 (c + 1) (by omega), e12, en 0 (by omega)]; exact r1
  · rw [h1 (c + 2) (by omega), e12, en 1 (by omega)]; exact r2
  · rw [h1 (c + 3) (by omega), e12, en 2 (by omega)]; exact r3
  · rw [h1 (c + 4) (by omega), e12, en 3 (by omega)]; exact r4
  · rw [h1 (c + 5) (by omega), e12, en 7 (by omega)]; exact r5
  · rw [h1 (c + 6) (by omega), e12, en 8 (by omega)]; exact r6
  · rw [h1 (c + 7) (by omega), e12, en 9 (by omega)]; exact r7
  · rw [h1 (c + 8) (by omega), e12, en 10 (by omega)]; exact r8
/-- LEAST -/
theorem bt_wf_le {w : bt_W} {v : Nat} (h : bt_wf w) (hv : v ≤ 6) : bt_wf (bt_w1 w 12 3 v) := by
  obtain ⟨f1, f2, f3, f4, f5, f6, f7, f8, f9, f10, f11, f12, f13, f14, f15, f16, f17, f18⟩ := h
  have en : ∀ g, g ≠ 12 → bt_w1 w 12 3 v g = w g := fun g hg => bt_w1_n hg
  have ek : ∀ k, k ≠ 3 → bt_w1 w 12 3 v 12 k = w 12 k := fun k hk => by rw [bt_w1_s, if_neg hk]
  unfold bt_wf
  rw [en 0 (by omega), en 1 (by omega), en 2 (by omega), en 3 (by omega), en 4 (by omega), en 5 (by omega), en 6 (by omega), en 7 (by omega), en 8 (by omega), en 9 (by omega), en 10 (by omega), en 11 (by omega), ek 0 (by omega), ek 1 (by omega), ek 2 (by omega), ek 4 (by omega), ek 5 (by omega)]
  exact ⟨f1, f2, f3, f4, by rw [bt_w1_s, if_pos rfl]; exact hv, f6, f7, f8, f9, f10, f11, f12, f13, f14, f15, f16, f17, f18⟩
theorem bt_cW_le {M M' : bt_M} {c v : Nat} {w : bt_W} (hw : bt_cW M c w) (hv : v ≤ 6) (h1 : ∀ x : Nat, x ≠ c → M' x = M x) (h2 : ∀ i, i ≠ 15 → M' c i = M c i) (h3 : M' c 15 = nI v) : bt_cW M' c (bt_w1 w 12 3 v) := by
  obtain ⟨hf, g8, g9, g10, g11, g12, g13, g14, g15, g16, g17, r1, r2, r3, r4, r5, r6, r7, r8⟩ := hw
  have en : ∀ g, g ≠ 12 → bt_w1 w 12 3 v g = w g := fun g hg => bt_w1_n hg
  have ek : ∀ k, k ≠ 3 → bt_w1 w 12 3 v 12 k = w 12 k := fun k hk => by rw [bt_w1_s, if_neg hk]
  refine ⟨bt_wf_le hf hv, ?_, ?_, ?_, ?_, ?_, ?_, ?_, ?_, ?_, ?_, ?_, ?_, ?_, ?_, ?_, ?_, ?_, ?_⟩
  · rw [h2 8 (by omega), ek 0 (by omega)]; exact g8
  · rw [h2 9 (by omega), ek 0 (by omega), en 4 (by omega)]; exact g9
  · rw [h2 10 (by omega), ek 0 (by omega), en 5 (by omega)]; exact g10
  · rw [h2 11 (by omega), ek 0 (by omega), en 6 (by omega)]; exact g11
  · rw [h2 12 (by omega), ek 1 (by omega)]; exact g12
  · rw [h2 13 (by omega), ek 1 (by omega), en 11 (by omega)]; exact g13
  · rw [h2 14 (by omega), ek 2 (by omega)]; exact g14
  · rw [h3, bt_w1_s, if_pos rfl]
  · rw [h2 16 (by omega), ek 4 (by omega)]; exact g16
  · rw [h2 17 (by omega), ek 5 (by omega)]; exact g17
  · rw [h1 (c + 1) (by omega), ek 0 (by omega), en 0 (by omega)]; exact r1
  · rw [h1 (c + 2) (by omega), ek 0 (by omega), en 1 (by omega)]; exact r2
  · rw [h1 (c + 3) (by omega), ek 0 (by omega), en 2 (by omega)]; exact r3
  · rw [h1 (c + 4) (by omega), ek 0 (by omega), en 3 (by omega)]; exact r4
  · rw [h1 (c + 5) (by omega), ek 1 (by omega), en 7 (by omega)]; exact r5
  · rw [h1 (c + 6) (by omega), ek 1 (by omega), en 8 (by omega)]; exact r6
  · rw [h1 (c + 7) (by omega), ek 1 (by omega), en 9 (by omega)]; exact r7
  · rw [h1 (c + 8) (by omega), ek 1 (by omega), en 10 (by omega)]; exact r8
/-- the model's page: a cell of a stretch (f 0..6), of a car (f 7, 8, 9) -/
theorem bt_mW_st {M M' : bt_M} {p f k v : Nat} {w : bt_W} (hw : bt_mW M p w) (hf7 : f < 7) (hk : k < 8) (hv : v ≤ bt_at bt_bnd f 0) (h1 : ∀ x : Nat, x ≠ 68 → M' x = M x) (h2 : ∀ j : Nat, j ≠ p + 7 * k + f → M' 68 j = M 68 j) (h3 : M' 68 (p + 7 * k + f) = if f = 3 then nI v - 10 else nI v) : bt_mW M' p (bt_w1 w f k v) := by
  obtain ⟨hf, g1, g2, g3, g4, g5, g6, r0, r1, r2, r3, r4, r5, r6, c7, c8, c9, c10, c11⟩ := hw
  have hn := hf.1
  have hm := hf.2.1
  have hwf := bt_wf_w1 (k := k) hf (by omega) hv
  have en : ∀ g, g ≠ f → bt_w1 w f k v g = w g := fun g hg => bt_w1_n hg
  have e12 := en 12 (by omega)
  have key : ∀ g, g ≠ 3 → g < 7 → (∀ i, i < w 12 0 → M 68 (p + 7 * i + g) = nI (w g i)) → ∀ i, i < w 12 0 → M' 68 (p + 7 * i + g) = nI (bt_w1 w f k v g i) := by
    intro g g3 g7 hr i hi
    by_cases e : g = f
    · subst e
      rw [bt_w1_s]
      by_cases hik : i = k
      · subst hik
        rw [h3, if_neg g3, if_pos rfl]
      · rw [if_neg hik, h2 _ (by omega)]
        exact hr i hi
    · rw [en g e, h2 _ (by omega)]
      exact hr i hi
  unfold bt_mW
  rw [e12, en 7 (by omega), en 8 (by omega), en 9 (by omega), en 10 (by omega), en 11 (by omega)]
  refine ⟨hwf, ?_, ?_, ?_, ?_, ?_, ?_, key 0 (by omega) (by omega) r0, key 1 (by omega) (by omega) r1, key 2 (by omega) (by omega) r2, ?_, key 4 (by omega) (by omega) r4, key 5 (by omega) (by omega) r5, key 6 (by omega) (by omega) r6, ?_, ?_, ?_, ?_, ?_⟩
  · rw [h1 67 (by omega)]; exact g1
  · rw [h1 67 (by omega)]; exact g2
  · rw [h2 _ (by omega)]; exact g3
  · rw [h2 _ (by omega)]; exact g4
  · rw [h2 _ (by omega)]; exact g5
  · rw [h2 _ (by omega)]; exact g6
  · intro i hi
    by_cases e : 3 = f
    · subst e
      rw [bt_w1_s]
      by_cases hik : i = k
      · subst hik
        rw [h3, if_pos rfl, if_pos rfl]
      · rw [if_neg hik, h2 _ (by omega)]
        exact r3 i hi
    · rw [en 3 e, h2 _ (by omega)]
      exact r3 i hi
  · intro i hi; rw [h2 _ (by omega)]; exact c7 i hi
  · intro i hi; rw [h2 _ (by omega)]; exact c8 i hi
  · intro i hi; rw [h2 _ (by omega)]; exact c9 i hi
  · intro i hi; rw [h2 _ (by omega)]; exact c10 i hi
  · intro i hi; rw [h2 _ (by omega)]; exact c11 i hi
theorem bt_mW_car {M M' : bt_M} {p f k v : Nat} {w : bt_W} (hw : bt_mW M p w) (hf7 : 7 ≤ f) (hf9 : f ≤ 9) (hk : k < 6) (hv : v ≤ bt_at bt_bnd f 0) (h1 : ∀ x : Nat, x ≠ 68 → M' x = M x) (h2 : ∀ j : Nat, j ≠ p + 58 + 5 * k + (f - 7) → M' 68 j = M 68 j) (h3 : M' 68 (p + 58 + 5 * k + (f - 7)) = nI v) : bt_mW M' p (bt_w1 w f k v) := by
  obtain ⟨hf, g1, g2, g3, g4, g5, g6, r0, r1, r2, r3, r4, r5, r6, c7, c8, c9, c10, c11⟩ := hw
  have hn := hf.1
  have hm := hf.2.1
  have hwf := bt_wf_w1 (k := k) hf (by omega) hv
  have en : ∀ g, g ≠ f → bt_w1 w f k v g = w g := fun g hg => bt_w1_n hg
  have e12 := en 12 (by omega)
  have key : ∀ g, 7 ≤ g → g ≤ 9 → (∀ i, i < w 12 1 → M 68 (p + 58 + 5 * i + (g - 7)) = nI (w g i)) → ∀ i, i < w 12 1 → M' 68 (p + 58 + 5 * i + (g - 7)) = nI (bt_w1 w f k v g i) := by
    intro g g7 g9 hr i hi
    by_cases e : g = f
    · subst e
      rw [bt_w1_s]
      by_cases hik : i = k
      · subst hik
        rw [h3, if_pos rfl]
      · rw [if_neg hik, h2 _ (by omega)]
        exact hr i hi
    · rw [en g e, h2 _ (by omega)]
      exact hr i hi
  unfold bt_mW
  rw [e12, en 0 (by omega), en 1 (by omega), en 2 (by omega), en 3 (by omega), en 4 (by omega), en 5 (by omega), en 6 (by omega), en 10 (by omega), en 11 (by omega)]
  refine ⟨hwf, ?_, ?_, ?_, ?_, ?_, ?_, ?_, ?_, ?_, ?_, ?_, ?_, ?_, key 7 (by omega) (by omega) c7, key 8 (by omega) (by omega) c8, key 9 (by omega) (by omega) c9, ?_, ?_⟩
  · rw [h1 67 (by omega)]; exact g1
  · rw [h1 67 (by omega)]; exact g2
  · rw [h2 _ (by omega)]; exact g3
  · rw [h2 _ (by omega)]; exact g4
  · rw [h2 _ (by omega)]; exact g5
  · rw [h2 _ (by omega)]; exact g6
  · intro i hi; rw [h2 _ (by omega)]; exact r0 i hi
  · intro i hi; rw [h2 _ (by omega)]; exact r1 i hi
  · intro i hi; rw [h2 _ (by omega)]; exact r2 i hi
  · intro i hi; rw [h2 _ (by omega)]; exact r3 i hi
  · intro i hi; rw [h2 _ (by omega)]; exact r4 i hi
  · intro i hi; rw [h2 _ (by omega)]; exact r5 i hi
  · intro i hi; rw [h2 _ (by omega)]; exact r6 i hi
  · intro i hi; rw [h2 _ (by omega)]; exact c10 i hi
  · intro i hi; rw [h2 _ (by omega)]; exact c11 i hi
theorem bt_mW_le {M M' : bt_M} {p v : Nat} {w : bt_W} (hw : bt_mW M p w) (hv : v ≤ 6) (h1 : ∀ x : Nat, x ≠ 68 → M' x = M x) (h2 : ∀ j : Nat, j ≠ p + 57 → M' 68 j = M 68 j) (h3 : M' 68 (p + 57) = nI v) : bt_mW M' p (bt_w1 w 12 3 v) := by
  obtain ⟨hf, g1, g2, g3, g4, g5, g6, r0, r1, r2, r3, r4, r5, r6, c7, c8, c9, c10, c11⟩ := hw
  have hn := hf.1
  have hm := hf.2.1
  have en : ∀ g, g ≠ 12 → bt_w1 w 12 3 v g = w g := fun g hg => bt_w1_n hg
  have ek : ∀ k, k ≠ 3 → bt_w1 w 12 3 v 12 k = w 12 k := fun k hk => by rw [bt_w1_s, if_neg hk]
  unfold bt_mW
  rw [en 0 (by omega), en 1 (by omega), en 2 (by omega), en 3 (by omega), en 4 (by omega), en 5 (by omega), en 6 (by omega), en 7 (by omega), en 8 (by omega), en 9 (by omega), en 10 (by omega), en 11 (by omega), ek 0 (by omega), ek 1 (by omega), ek 2 (by omega), ek 4 (by omega), ek 5 (by omega)]
  refine ⟨bt_wf_le hf hv, ?_, ?_, ?_, ?_, ?_, ?_, ?_, ?_, ?_, ?_, ?_, ?_, ?_, ?_, ?_, ?_, ?_, ?_⟩
  · rw [h1 67 (by omega)]; exact g1
  · rw [h1 67 (by omega)]; exact g2
  · rw [h2 _ (by omega)]; exact g3
  · rw [h3, bt_w1_s, if_pos rfl]
  · rw [h2 _ (by omega)]; exact g5
  · rw [h2 _ (by omega)]; exact g6
  · intro i hi; rw [h2 _ (by omega)]; exact r0 i hi
  · intro i hi; rw [h2 _ (by omega)]; exact r1 i hi
  · intro i hi; rw [h2 _ (by omega)]; exact r2 i hi
  · intro i hi; rw [h2 _ (by omega)]; exact r3 i hi
  · intro i hi; rw [h2 _ (by omega)]; exact r4 i hi
  · intro i hi; rw [h2 _ (by omega)]; exact r5 i hi
  · intro i hi; rw [h2 _ (by omega)]; exact r6 i hi
  · intro i hi; rw [h2 _ (by omega)]; exact c7 i hi
  · intro i hi; rw [h2 _ (by omega)]; exact c8 i hi
  · intro i hi; rw [h2 _ (by omega)]; exact c9 i hi
  · intro i hi; rw [h2 _ (by omega)]; exact c10 i hi
  · intro i hi; rw [h2 _ (by omega)]; exact c11 i hi
end
section
/-! CALLS, BOTH SIDES: what there is, what is changed. f_.. : the answer and the new state -/
theorem bt_some {a a' : Value} {b b' : bt_S} (h : some (a, b) = some (a', b')) : a = a' ∧ b = b' := Prod.mk.inj (Option.some.inj h)
def bt_CX5_isStretch : bt_C := [(57, 0, 3, sX5_within)]
def sX5_isStretch : bt_Sp := fun as M N K => match as with
  | [.ref c, .int i] => ∃ n, c = 0 ∧ M 2 8 = nI n ∧ n ≤ 8 ∧ K (some (.int (bt_bi (bt_in i n)))) M N
  | _ => False
theorem mX5_isStretch : bt_MT bt_TX5_isStretch bt_FX5 bt_CX5_isStretch 2 2 sX5_isStretch := by
  intro as M N Rt h P hP
  unfold sX5_isStretch at h
  split at h
  · next c i =>
    obtain ⟨n, rfl, hn, hn8, h⟩ := h
    rw [← bt_bi_c (bt_in_last (x := i) (n := n) (by omega))] at h
    simp only [← hn] at h
    exact bt_go0 rfl hP 20 ⟨bt_bi_01, h⟩
  · exact False.elim h
def bt_CX5_isCar : bt_C := [(57, 0, 3, sX5_within)]
def sX5_isCar : bt_Sp := fun as M N K => match as with
  | [.ref c, .int i] => ∃ n, c = 0 ∧ M 2 12 = nI n ∧ n ≤ 6 ∧ K (some (.int (bt_bi (bt_in i n)))) M N
  | _ => False
theorem mX5_isCar : bt_MT bt_TX5_isCar bt_FX5 bt_CX5_isCar 2 2 sX5_isCar := by
  intro as M N Rt h P hP
  unfold sX5_isCar at h
  split at h
  · next c i =>
    obtain ⟨n, rfl, hn, hn8, h⟩ := h
    rw [← bt_bi_c (bt_in_last (x := i) (n := n) (by omega))] at h
    simp only [← hn] at h
    exact bt_go0 rfl hP 20 ⟨bt_bi_01, h⟩
  · exact False.elim h
def sX5_exchange : bt_Sp := fun as M N K => match as with
  | [.ref a, .int i, .int v] => ∃ n j, bt_sh a = (1, 0, n) ∧ i = nI j ∧ j < n ∧ ∀ M', M' = va_up M a (upd (M a) j v) → K (some (.int (M a j))) M' N
  | _ => False
theorem mX5_exchange : bt_MT bt_TX5_exchange bt_FX5 [] 1 4 sX5_exchange := by
  intro as M N Rt h P hP
  unfold sX5_exchange at h
  split at h
  · obtain ⟨n, j, hsh, rfl, hj, h⟩ := h
    exact bt_go0 rfl hP 20 ⟨n, hsh, j, rfl, hj, n, hsh, j, rfl, hj, fun M' e => h M' e⟩
  · exact False.elim h
def bt_CX6_isRoad : bt_C := [(46, 0, 3, sX6_in)]
def sX6_isRoad : bt_Sp := fun as M N K => match as with
  | [.ref c, .int i] => ∃ n, c = 67 ∧ M 67 1 = nI n ∧ n ≤ 8 ∧ K (some (.int (bt_bi (bt_in i n)))) M N
  | _ => False
theorem mX6_isRoad : bt_MT bt_TX6_isRoad bt_FX6 bt_CX6_isRoad 2 2 sX6_isRoad := by
  intro as M N Rt h P hP
  unfold sX6_isRoad at h
  split at h
  · next c i =>
    obtain ⟨n, rfl, hn, hn8, h⟩ := h
    rw [← bt_bi_c (bt_inl_last (x := i) (n := n) (by omega))] at h
    simp only [← hn] at h
    exact bt_go0 rfl hP 20 ⟨bt_bi_01, h⟩
  · exact False.elim h
def bt_CX6_isCar : bt_C := [(46, 0, 3, sX6_in)]
def sX6_isCar : bt_Sp := fun as M N K => match as with
  | [.ref c, .int i] => ∃ n, c = 67 ∧ M 67 2 = nI n ∧ n ≤ 6 ∧ K (some (.int (bt_bi (bt_in i n)))) M N
  | _ => False
theorem mX6_isCar : bt_MT bt_TX6_isCar bt_FX6 bt_CX6_isCar 2 2 sX6_isCar := by
  intro as M N Rt h P hP
  unfold sX6_isCar at h
  split at h
  · next c i =>
    obtain ⟨n, rfl, hn, hn8, h⟩ := h
    rw [← bt_bi_c (bt_inl_last (x := i) (n := n) (by omega))] at h
    simp only [← hn] at h
    exact bt_go0 rfl hP 20 ⟨bt_bi_01, h⟩
  · exact False.elim h
def sX6_sets : bt_Sp := fun as M N K => match as with
  | [.ref c, .int g, .int i, .int v] => c = 67 ∧ (g = 0 → K (some (.int (-1))) M N) ∧ (¬ g = 0 → ∃ j, i = nI j ∧ j < 540 ∧ ∀ M', M' = va_up M 68 (upd (M 68) j v) → K (some (.int (M 68 j))) M' N)
  | _ => False
theorem mX6_sets : bt_MT bt_TX6_sets bt_FX6 [] 1 5 sX6_sets := by
  intro as M N Rt h P hP
  unfold sX6_sets at h
  split at h
  · obtain ⟨rfl, h0, h1⟩ := h
    refine bt_go0 rfl hP 20 ⟨fun q => ?_, fun q => ?_⟩
    · obtain ⟨j, rfl, hj, h⟩ := h1 q
      exact ⟨_, rfl, j, rfl, hj, _, rfl, j, rfl, hj, fun M' e => h M' e⟩
    · exact h0 q
  · exact False.elim h
theorem bt_bi_n0 {p : Prop} [Decidable p] : ¬ bt_bi p = 0 ↔ p := by
  by_cases h : p <;> simp [bt_bi, h]
theorem bt_clm {j : Nat} (h : j < 2 ^ 31) : (nI j).toNatClampNeg = j := nI_clamp h
theorem bt_inl_c {x : Int32} {c : Int64} {k : Nat} (hc : c = lN k) (h : k < 2 ^ 31) : ((0 : Int64) ≤ x.toInt64 ∧ x.toInt64 ≤ c) ↔ bt_in x (k + 1) := by
  rw [hc]
  exact bt_inl_top h
theorem bt_in_c {x c : Int32} {k : Nat} (hc : c = nI k) (h : k + 1 < 2 ^ 31) : ((0 : Int32) ≤ x ∧ x ≤ c) ↔ bt_in x (k + 1) := by
  rw [hc]
  exact bt_in_top h

def f_fault : bt_fn := fun t S => match t, S with
  | [], (w, im, u, z, q) => some (.int (nI (u 1)), (w, im, u, z, q))
  | _, _ => none

def sX5_fault : bt_Sp := bt_spC f_fault
set_option maxRecDepth 100000 in
theorem mX5_fault : bt_MT bt_TX5_fault bt_FX5 [] 1 1 sX5_fault := by
  intro as M N Rt h P hP
  obtain ⟨t, S, r, S', rfl, hI, hf, h⟩ := bt_spC_e h
  obtain ⟨w, im, u, z, q⟩ := S
  unfold f_fault at hf
  split at hf
  · next _ _ _ _ _ e =>
    cases e
    obtain ⟨rfl, rfl⟩ := bt_some hf
    obtain ⟨a1, a2, a3, a4, a5, a6, a7, a8, a9, a10, a11, a12⟩ := id hI
    obtain ⟨b0, b1, b2, b3, b4, b5, b6, b7, b8, b9, b10⟩ := id a2
    obtain ⟨hw, h8, h9, h10, h11, h12, h13, h14, h15, h16, h17, r1, r2, r3, r4, r5, r6, r7, r8⟩ := id a1
    obtain ⟨f1, f2, f3, f4, f5, f6, f7, f8, f9, f10, f11, f12, f13, f14, f15, f16, f17, f18⟩ := id hw
    have key := h M N (fun _ _ => rfl) hI
    rw [← a5] at key
    exact bt_go0 rfl hP 20 key
  · cases hf

def sX6_fault : bt_Sp := bt_spM f_fault
set_option maxRecDepth 100000 in
theorem mX6_fault : bt_MT bt_TX6_fault bt_FX6 [] 1 1 sX6_fault := by
  intro as M N Rt h P hP
  obtain ⟨t, S, r, S', rfl, hI, hf, h⟩ := bt_spM_e h
  obtain ⟨w, im, u, z, q⟩ := S
  unfold f_fault at hf
  split at hf
  · next _ _ _ _ _ e =>
    cases e
    obtain ⟨rfl, rfl⟩ := bt_some hf
    obtain ⟨a1, a2, a3, a4, a5, a6, a7, a8, a9, a10, a11, a12, a13, a14, a15⟩ := id hI
    obtain ⟨b0, b1, b2, b3, b4, b5, b6, b7, b8, b9, b10⟩ := id a2
    obtain ⟨hw, g1, g2, g3, g4, g5, g6, r0, r1, r2, r3, r4, r5, r6, c7, c8, c9, c10, c11⟩ := id a1
    obtain ⟨f1, f2, f3, f4, f5, f6, f7, f8, f9, f10, f11, f12, f13, f14, f15, f16, f17, f18⟩ := id hw
    simp only [Nat.zero_add] at g3 g4 g5 g6 r0 r1 r2 r3 r4 r5 r6 c7 c8 c9 c10
    have key := h M (fun _ _ => rfl) hI
    rw [← a5] at key
    exact bt_go0 rfl hP 20 key
  · cases hf

def f_torn : bt_fn := fun t S => match t, S with
  | [], (w, im, u, z, q) => some (.int (nI (u 2)), (w, im, u, z, q))
  | _, _ => none

def sX5_torn : bt_Sp := bt_spC f_torn
set_option maxRecDepth 100000 in
theorem mX5_torn : bt_MT bt_TX5_torn bt_FX5 [] 1 1 sX5_torn := by
  intro as M N Rt h P hP
  obtain ⟨t, S, r, S', rfl, hI, hf, h⟩ := bt_spC_e h
  obtain ⟨w, im, u, z, q⟩ := S
  unfold f_torn at hf
  split at hf
  · next _ _ _ _ _ e =>
    cases e
    obtain ⟨rfl, rfl⟩ := bt_some hf
    obtain ⟨a1, a2, a3, a4, a5, a6, a7, a8, a9, a10, a11, a12⟩ := id hI
    obtain ⟨b0, b1, b2, b3, b4, b5, b6, b7, b8, b9, b10⟩ := id a2
    obtain ⟨hw, h8, h9, h10, h11, h12, h13, h14, h15, h16, h17, r1, r2, r3, r4, r5, r6, r7, r8⟩ := id a1
    obtain ⟨f1, f2, f3, f4, f5, f6, f7, f8, f9, f10, f11, f12, f13, f14, f15, f16, f17, f18⟩ := id hw
    have key := h M N (fun _ _ => rfl) hI
    rw [← a7] at key
    exact bt_go0 rfl hP 20 key
  · cases hf

def sX6_torn : bt_Sp := bt_spM f_torn
set_option maxRecDepth 100000 in
theorem mX6_torn : bt_MT bt_TX6_torn bt_FX6 [] 1 1 sX6_torn := by
  intro as M N Rt h P hP
  obtain ⟨t, S, r, S', rfl, hI, hf, h⟩ := bt_spM_e h
  obtain ⟨w, im, u, z, q⟩ := S
  unfold f_torn at hf
  split at hf
  · next _ _ _ _ _ e =>
    cases e
    obtain ⟨rfl, rfl⟩ := bt_some hf
    obtain ⟨a1, a2, a3, a4, a5, a6, a7, a8, a9, a10, a11, a12, a13, a14, a15⟩ := id hI
    obtain ⟨b0, b1, b2, b3, b4, b5, b6, b7, b8, b9, b10⟩ := id a2
    obtain ⟨hw, g1, g2, g3, g4, g5, g6, r0, r1, r2, r3, r4, r5, r6, c7, c8, c9, c10, c11⟩ := id a1
    obtain ⟨f1, f2, f3, f4, f5, f6, f7, f8, f9, f10, f11, f12, f13, f14, f15, f16, f17, f18⟩ := id hw
    simp only [Nat.zero_add] at g3 g4 g5 g6 r0 r1 r2 r3 r4 r5 r6 c7 c8 c9 c10
    have key := h M (fun _ _ => rfl) hI
    rw [← a6] at key
    exact bt_go0 rfl hP 20 key
  · cases hf

def f_rule : bt_fn := fun t S => match t, S with
  | [.int x], (w, im, u, z, q) => some (.int (if x = 0 then nI (w 12 0) else if x = 1 then nI (w 12 1) else if x = 2 then nI (w 12 2) else if x = 3 then nI (w 12 3) else if x = 4 then nI (w 12 4) else if x = 5 then nI (w 12 5) else if x = 6 then nI (bt_mk (w 11) (w 12 1)) else -1), (w, im, u, z, q))
  | _, _ => none

def sX5_rule : bt_Sp := bt_spC f_rule
set_option maxRecDepth 100000 in
theorem mX5_rule : bt_MT bt_TX5_rule bt_FX5 [] 1 2 sX5_rule := by
  intro as M N Rt h P hP
  obtain ⟨t, S, r, S', rfl, hI, hf, h⟩ := bt_spC_e h
  obtain ⟨w, im, u, z, q⟩ := S
  unfold f_rule at hf
  split at hf
  · next x _ _ _ _ _ e =>
    cases e
    obtain ⟨rfl, rfl⟩ := bt_some hf
    obtain ⟨a1, a2, a3, a4, a5, a6, a7, a8, a9, a10, a11, a12⟩ := id hI
    obtain ⟨b0, b1, b2, b3, b4, b5, b6, b7, b8, b9, b10⟩ := id a2
    obtain ⟨hw, h8, h9, h10, h11, h12, h13, h14, h15, h16, h17, r1, r2, r3, r4, r5, r6, r7, r8⟩ := id a1
    obtain ⟨f1, f2, f3, f4, f5, f6, f7, f8, f9, f10, f11, f12, f13, f14, f15, f16, f17, f18⟩ := id hw
    have key := h M N (fun _ _ => rfl) hI
    refine bt_go0 rfl hP 20 ?_
    refine ⟨fun z0 => ?_, fun z0 => ⟨fun z1 => ?_, fun z1 => ⟨fun z2 => ?_, fun z2 => ⟨fun z3 => ?_, fun z3 => ⟨fun z4 => ?_, fun z4 => ⟨fun z5 => ?_, fun z5 => ⟨fun z6 => ?_, fun z6 => ?_⟩⟩⟩⟩⟩⟩⟩
    · rw [if_pos z0] at key
      rw [← h8] at key
      exact key
    · rw [if_neg z0, if_pos z1] at key
      rw [← h12] at key
      exact key
    · rw [if_neg z0, if_neg z1, if_pos z2] at key
      rw [← h14] at key
      exact key
    · rw [if_neg z0, if_neg z1, if_neg z2, if_pos z3] at key
      rw [← h15] at key
      exact key
    · rw [if_neg z0, if_neg z1, if_neg z2, if_neg z3, if_pos z4] at key
      rw [← h16] at key
      exact key
    · rw [if_neg z0, if_neg z1, if_neg z2, if_neg z3, if_neg z4, if_pos z5] at key
      rw [← h17] at key
      exact key
    · rw [if_neg z0, if_neg z1, if_neg z2, if_neg z3, if_neg z4, if_neg z5, if_pos z6] at key
      rw [← h13] at key
      exact key
    · rw [if_neg z0, if_neg z1, if_neg z2, if_neg z3, if_neg z4, if_neg z5, if_neg z6] at key
      exact key
  · cases hf

def bt_CX6_rule : bt_C := [(143, 1, 2, sX6_paceOn), (146, 1, 2, sX6_pastOn)]
def sX6_rule : bt_Sp := bt_spM f_rule
set_option maxRecDepth 100000 in
theorem mX6_rule : bt_MT bt_TX6_rule bt_FX6 bt_CX6_rule 1 2 sX6_rule := by
  intro as M N Rt h P hP
  obtain ⟨t, S, r, S', rfl, hI, hf, h⟩ := bt_spM_e h
  obtain ⟨w, im, u, z, q⟩ := S
  unfold f_rule at hf
  split at hf
  · next x _ _ _ _ _ e =>
    cases e
    obtain ⟨rfl, rfl⟩ := bt_some hf
    obtain ⟨a1, a2, a3, a4, a5, a6, a7, a8, a9, a10, a11, a12, a13, a14, a15⟩ := id hI
    obtain ⟨b0, b1, b2, b3, b4, b5, b6, b7, b8, b9, b10⟩ := id a2
    obtain ⟨hw, g1, g2, g3, g4, g5, g6, r0, r1, r2, r3, r4, r5, r6, c7, c8, c9, c10, c11⟩ := id a1
    obtain ⟨f1, f2, f3, f4, f5, f6, f7, f8, f9, f10, f11, f12, f13, f14, f15, f16, f17, f18⟩ := id hw
    simp only [Nat.zero_add] at g3 g4 g5 g6 r0 r1 r2 r3 r4 r5 r6 c7 c8 c9 c10
    have key := h M (fun _ _ => rfl) hI
    refine bt_go0 rfl hP 40 ?_
    refine ⟨fun z0 => ?_, fun z0 => ⟨fun z1 => ?_, fun z1 => ⟨fun z2 => ?_, fun z2 => ⟨fun z3 => ?_, fun z3 => ⟨fun z4 => ?_, fun z4 => ⟨fun z5 => ?_, fun z5 => ⟨fun z6 => ?_, fun z6 => ?_⟩⟩⟩⟩⟩⟩⟩
    · rw [if_pos z0] at key
      rw [← g1] at key
      exact key
    · rw [if_neg z0, if_pos z1] at key
      rw [← g2] at key
      exact key
    · rw [if_neg z0, if_neg z1, if_pos z2] at key
      exact ⟨0, w 12 2, rfl, rfl, by omega, by simpa using g3, key⟩
    · rw [if_neg z0, if_neg z1, if_neg z2, if_pos z3] at key
      rw [← g4] at key
      exact ⟨_, rfl, 57, rfl, by omega, key⟩
    · rw [if_neg z0, if_neg z1, if_neg z2, if_neg z3, if_pos z4] at key
      rw [← g5] at key
      exact ⟨_, rfl, 88, rfl, by omega, key⟩
    · rw [if_neg z0, if_neg z1, if_neg z2, if_neg z3, if_neg z4, if_pos z5] at key
      rw [← g6] at key
      exact ⟨_, rfl, 89, rfl, by omega, key⟩
    · rw [if_neg z0, if_neg z1, if_neg z2, if_neg z3, if_neg z4, if_neg z5, if_pos z6] at key
      exact ⟨0, w 12 1, w 11, rfl, rfl, by omega, g2, f2, f18, c11, key⟩
    · rw [if_neg z0, if_neg z1, if_neg z2, if_neg z3, if_neg z4, if_neg z5, if_neg z6] at key
      exact key
  · cases hf

def f_road : bt_fn := fun t S => match t, S with
  | [.int i, .int x], (w, im, u, z, q) => some (.int (if bt_in i (w 12 0) then if x = 0 then nI (w 0 i.toNatClampNeg) else if x = 1 then nI (w 1 i.toNatClampNeg) else if x = 2 then nI (w 2 i.toNatClampNeg) else if x = 3 then nI (w 3 i.toNatClampNeg) else if x = 4 then nI (w 4 i.toNatClampNeg) else if x = 5 then nI (w 5 i.toNatClampNeg) else if x = 6 then nI (w 6 i.toNatClampNeg) else -1 else -1), (w, im, u, z, q))
  | _, _ => none

def bt_CX5_road : bt_C := [(109, 1, 2, sX5_isStretch), (129, 0, 2, sX5_bit)]
def sX5_road : bt_Sp := bt_spC f_road
set_option maxRecDepth 100000 in
theorem mX5_road : bt_MT bt_TX5_road bt_FX5 bt_CX5_road 1 3 sX5_road := by
  intro as M N Rt h P hP
  obtain ⟨t, S, r, S', rfl, hI, hf, h⟩ := bt_spC_e h
  obtain ⟨w, im, u, z, q⟩ := S
  unfold f_road at hf
  split at hf
  · next i x _ _ _ _ _ e =>
    cases e
    obtain ⟨rfl, rfl⟩ := bt_some hf
    obtain ⟨a1, a2, a3, a4, a5, a6, a7, a8, a9, a10, a11, a12⟩ := id hI
    obtain ⟨b0, b1, b2, b3, b4, b5, b6, b7, b8, b9, b10⟩ := id a2
    obtain ⟨hw, h8, h9, h10, h11, h12, h13, h14, h15, h16, h17, r1, r2, r3, r4, r5, r6, r7, r8⟩ := id a1
    obtain ⟨f1, f2, f3, f4, f5, f6, f7, f8, f9, f10, f11, f12, f13, f14, f15, f16, f17, f18⟩ := id hw
    have key := h M N (fun _ _ => rfl) hI
    refine bt_go0 rfl hP 40 ?_
    refine ⟨w 12 0, rfl, h8, f1, ⟨fun y => ?_, fun y => ?_⟩⟩
    · rw [bt_bi_n0] at y
      rw [if_pos y] at key
      obtain ⟨j, hj, rfl⟩ := bt_in_e y
      rw [bt_clm (by omega)] at key
      refine ⟨fun z0 => ?_, fun z0 => ⟨fun z1 => ?_, fun z1 => ⟨fun z2 => ?_, fun z2 => ⟨fun z3 => ?_, fun z3 => ⟨fun z4 => ?_, fun z4 => ⟨fun z5 => ?_, fun z5 => ⟨fun z6 => ?_, fun z6 => ?_⟩⟩⟩⟩⟩⟩⟩
      · rw [if_pos z0] at key
        rw [← r1 j hj] at key
        exact ⟨_, rfl, j, rfl, by omega, key⟩
      · rw [if_neg z0, if_pos z1] at key
        rw [← r2 j hj] at key
        exact ⟨_, rfl, j, rfl, by omega, key⟩
      · rw [if_neg z0, if_neg z1, if_pos z2] at key
        rw [← r3 j hj] at key
        exact ⟨_, rfl, j, rfl, by omega, key⟩
      · rw [if_neg z0, if_neg z1, if_neg z2, if_pos z3] at key
        rw [← r4 j hj] at key
        exact ⟨_, rfl, j, rfl, by omega, key⟩
      · rw [if_neg z0, if_neg z1, if_neg z2, if_neg z3, if_pos z4] at key
        have e := bt_bitN f11 (n := w 12 0) (k := j) (by omega) (by omega)
        rw [if_pos hj, ← h9] at e
        rw [← e] at key
        exact key
      · rw [if_neg z0, if_neg z1, if_neg z2, if_neg z3, if_neg z4, if_pos z5] at key
        have e := bt_bitN f12 (n := w 12 0) (k := j) (by omega) (by omega)
        rw [if_pos hj, ← h10] at e
        rw [← e] at key
        exact key
      · rw [if_neg z0, if_neg z1, if_neg z2, if_neg z3, if_neg z4, if_neg z5, if_pos z6] at key
        have e := bt_bitN f13 (n := w 12 0) (k := j) (by omega) (by omega)
        rw [if_pos hj, ← h11] at e
        rw [← e] at key
        exact key
      · rw [if_neg z0, if_neg z1, if_neg z2, if_neg z3, if_neg z4, if_neg z5, if_neg z6] at key
        exact key
    · rw [bt_bi_0] at y
      rw [if_neg y] at key
      exact key
  · cases hf

def bt_CX6_road : bt_C := [(149, 1, 2, sX6_isRoad), (46, 0, 3, sX6_in)]
def sX6_road : bt_Sp := bt_spM f_road
set_option maxRecDepth 100000 in
theorem mX6_road : bt_MT bt_TX6_road bt_FX6 bt_CX6_road 1 3 sX6_road := by
  intro as M N Rt h P hP
  obtain ⟨t, S, r, S', rfl, hI, hf, h⟩ := bt_spM_e h
  obtain ⟨w, im, u, z, q⟩ := S
  unfold f_road at hf
  split at hf
  · next i x _ _ _ _ _ e =>
    cases e
    obtain ⟨rfl, rfl⟩ := bt_some hf
    obtain ⟨a1, a2, a3, a4, a5, a6, a7, a8, a9, a10, a11, a12, a13, a14, a15⟩ := id hI
    obtain ⟨b0, b1, b2, b3, b4, b5, b6, b7, b8, b9, b10⟩ := id a2
    obtain ⟨hw, g1, g2, g3, g4, g5, g6, r0, r1, r2, r3, r4, r5, r6, c7, c8, c9, c10, c11⟩ := id a1
    obtain ⟨f1, f2, f3, f4, f5, f6, f7, f8, f9, f10, f11, f12, f13, f14, f15, f16, f17, f18⟩ := id hw
    simp only [Nat.zero_add] at g3 g4 g5 g6 r0 r1 r2 r3 r4 r5 r6 c7 c8 c9 c10
    have key := h M (fun _ _ => rfl) hI
    refine bt_go0 rfl hP 40 ?_
    refine ⟨w 12 0, rfl, g1, f1, ⟨fun y => ?_, fun y => ⟨fun y2 => ?_, fun y2 => ?_⟩⟩⟩
    · rw [bt_bi_0] at y
      rw [if_neg y] at key
      exact key
    · rw [bt_bi_0, bt_inl_c (k := 6) (show (6 : Int64) = lN 6 from rfl) (by omega)] at y2
      rw [bt_bi_n0] at y
      have hx : ∀ a : Nat, a < 7 → ¬ x = nI a := fun a ha e => y2 (by rw [e, bt_in_nI (by omega)]; omega)
      rw [if_pos y, if_neg (show ¬ x = 0 from hx 0 (by omega)), if_neg (show ¬ x = 1 from hx 1 (by omega)), if_neg (show ¬ x = 2 from hx 2 (by omega)), if_neg (show ¬ x = 3 from hx 3 (by omega)), if_neg (show ¬ x = 4 from hx 4 (by omega)), if_neg (show ¬ x = 5 from hx 5 (by omega)), if_neg (show ¬ x = 6 from hx 6 (by omega))] at key
      exact key
    · rw [bt_bi_n0, bt_inl_c (k := 6) (show (6 : Int64) = lN 6 from rfl) (by omega)] at y2
      rw [bt_bi_n0] at y
      rw [if_pos y] at key
      obtain ⟨j, hj, rfl⟩ := bt_in_e y
      obtain ⟨a, ha, rfl⟩ := bt_in_e y2
      rw [bt_clm (by omega)] at key
      have hm : nI 7 * nI j + nI a = nI (7 * j + a) := by rw [pk_mul, nI_add]
      refine ⟨_, rfl, 7 * j + a, hm, by omega, ?_⟩
      have key2 : Rt (some (.int (nI (w a j)))) M N := by
        rcases (show a = 0 ∨ a = 1 ∨ a = 2 ∨ a = 3 ∨ a = 4 ∨ a = 5 ∨ a = 6 by omega) with rfl | rfl | rfl | rfl | rfl | rfl | rfl <;> exact key
      refine ⟨fun y3 => ?_, fun y3 => ?_⟩
      · have : M 68 (7 * j + a) = nI (w a j) := by
          rcases (show a = 0 ∨ a = 1 ∨ a = 2 ∨ a = 3 ∨ a = 4 ∨ a = 5 ∨ a = 6 by omega) with rfl | rfl | rfl | rfl | rfl | rfl | rfl
          · exact r0 j hj
          · exact r1 j hj
          · exact r2 j hj
          · exact absurd rfl y3
          · exact r4 j hj
          · exact r5 j hj
          · exact r6 j hj
        rw [← Int32.add_zero (nI (w a j)), ← this] at key2
        exact key2
      · have ha3 : a = 3 := (nI_eq (b := 3) (by omega) (by omega)).mp y3
        subst ha3
        rw [← bt_m10 (nI (w 3 j)), ← r3 j hj] at key2
        exact key2
  · cases hf

def f_car : bt_fn := fun t S => match t, S with
  | [.int i, .int x], (w, im, u, z, q) => some (.int (if bt_in i (w 12 1) then if x = 0 then nI (w 7 i.toNatClampNeg) else if x = 1 then nI (w 8 i.toNatClampNeg) else if x = 2 then nI (w 9 i.toNatClampNeg) else if x = 3 then nI (w 10 i.toNatClampNeg) else if x = 4 then nI (w 11 i.toNatClampNeg) else if x = 5 then nI (if w 11 i.toNatClampNeg = 1 then 0 else bt_ct1 (fun j => 1 - w 11 j) i.toNatClampNeg) else -1 else -1), (w, im, u, z, q))
  | _, _ => none

def bt_CX5_car : bt_C := [(139, 1, 2, sX5_isCar), (129, 0, 2, sX5_bit), (154, 1, 2, sX4_behindAheadOf)]
def sX5_car : bt_Sp := bt_spC f_car
set_option maxRecDepth 100000 in
theorem mX5_car : bt_MT bt_TX5_car bt_FX5 bt_CX5_car 1 3 sX5_car := by
  intro as M N Rt h P hP
  obtain ⟨t, S, r, S', rfl, hI, hf, h⟩ := bt_spC_e h
  obtain ⟨w, im, u, z, q⟩ := S
  unfold f_car at hf
  split at hf
  · next i x _ _ _ _ _ e =>
    cases e
    obtain ⟨rfl, rfl⟩ := bt_some hf
    obtain ⟨a1, a2, a3, a4, a5, a6, a7, a8, a9, a10, a11, a12⟩ := id hI
    obtain ⟨b0, b1, b2, b3, b4, b5, b6, b7, b8, b9, b10⟩ := id a2
    obtain ⟨hw, h8, h9, h10, h11, h12, h13, h14, h15, h16, h17, r1, r2, r3, r4, r5, r6, r7, r8⟩ := id a1
    obtain ⟨f1, f2, f3, f4, f5, f6, f7, f8, f9, f10, f11, f12, f13, f14, f15, f16, f17, f18⟩ := id hw
    have key := h M N (fun _ _ => rfl) hI
    refine bt_go0 rfl hP 40 ?_
    refine ⟨w 12 1, rfl, h12, f2, ⟨fun y => ?_, fun y => ?_⟩⟩
    · rw [bt_bi_n0] at y
      rw [if_pos y] at key
      obtain ⟨j, hj, rfl⟩ := bt_in_e y
      rw [bt_clm (by omega)] at key
      refine ⟨fun z0 => ?_, fun z0 => ⟨fun z1 => ?_, fun z1 => ⟨fun z2 => ?_, fun z2 => ⟨fun z3 => ?_, fun z3 => ⟨fun z4 => ?_, fun z4 => ⟨fun z5 => ?_, fun z5 => ?_⟩⟩⟩⟩⟩⟩
      · rw [if_pos z0] at key
        rw [← r5 j hj] at key
        exact ⟨_, rfl, j, rfl, by omega, key⟩
      · rw [if_neg z0, if_pos z1] at key
        rw [← r6 j hj] at key
        exact ⟨_, rfl, j, rfl, by omega, key⟩
      · rw [if_neg z0, if_neg z1, if_pos z2] at key
        rw [← r7 j hj] at key
        exact ⟨_, rfl, j, rfl, by omega, key⟩
      · rw [if_neg z0, if_neg z1, if_neg z2, if_pos z3] at key
        rw [← r8 j hj] at key
        exact ⟨_, rfl, j, rfl, by omega, key⟩
      · rw [if_neg z0, if_neg z1, if_neg z2, if_neg z3, if_pos z4] at key
        have e := bt_bitN f18 (n := w 12 1) (k := j) (by omega) (by omega)
        rw [if_pos hj, ← h13] at e
        rw [← e] at key
        exact key
      · rw [if_neg z0, if_neg z1, if_neg z2, if_neg z3, if_neg z4, if_pos z5] at key
        exact ⟨w, j, Or.inl rfl, a1, rfl, hj, key⟩
      · rw [if_neg z0, if_neg z1, if_neg z2, if_neg z3, if_neg z4, if_neg z5] at key
        exact key
    · rw [bt_bi_0] at y
      rw [if_neg y] at key
      exact key
  · cases hf

def bt_CX6_car : bt_C := [(153, 1, 2, sX6_isCar), (46, 0, 3, sX6_in), (158, 1, 3, sX6_aheadOf)]
def sX6_car : bt_Sp := bt_spM f_car
set_option maxRecDepth 100000 in
theorem mX6_car : bt_MT bt_TX6_car bt_FX6 bt_CX6_car 1 3 sX6_car := by
  intro as M N Rt h P hP
  obtain ⟨t, S, r, S', rfl, hI, hf, h⟩ := bt_spM_e h
  obtain ⟨w, im, u, z, q⟩ := S
  unfold f_car at hf
  split at hf
  · next i x _ _ _ _ _ e =>
    cases e
    obtain ⟨rfl, rfl⟩ := bt_some hf
    obtain ⟨a1, a2, a3, a4, a5, a6, a7, a8, a9, a10, a11, a12, a13, a14, a15⟩ := id hI
    obtain ⟨b0, b1, b2, b3, b4, b5, b6, b7, b8, b9, b10⟩ := id a2
    obtain ⟨hw, g1, g2, g3, g4, g5, g6, r0, r1, r2, r3, r4, r5, r6, c7, c8, c9, c10, c11⟩ := id a1
    obtain ⟨f1, f2, f3, f4, f5, f6, f7, f8, f9, f10, f11, f12, f13, f14, f15, f16, f17, f18⟩ := id hw
    simp only [Nat.zero_add] at g3 g4 g5 g6 r0 r1 r2 r3 r4 r5 r6 c7 c8 c9 c10
    have key := h M (fun _ _ => rfl) hI
    refine bt_go0 rfl hP 40 ?_
    refine ⟨w 12 1, rfl, g2, f2, ⟨fun y => ?_, fun y => ⟨fun y2 => ?_, fun y2 => ?_⟩⟩⟩
    · rw [bt_bi_0] at y
      rw [if_neg y] at key
      exact key
    · rw [bt_bi_n0, bt_inl_c (k := 5) (show (5 : Int64) = lN 5 from rfl) (by omega)] at y2
      rw [bt_bi_n0] at y
      rw [if_pos y] at key
      obtain ⟨j, hj, rfl⟩ := bt_in_e y
      obtain ⟨a, ha, rfl⟩ := bt_in_e y2
      rw [bt_clm (by omega)] at key
      refine ⟨fun y3 => ?_, fun y3 => ?_⟩
      · have hm : nI 58 + nI 5 * nI j + nI a = nI (58 + 5 * j + a) := by rw [pk_mul, nI_add, nI_add]
        refine ⟨_, rfl, 58 + 5 * j + a, hm, by omega, ?_⟩
        rcases (show a = 0 ∨ a = 1 ∨ a = 2 ∨ a = 3 ∨ a = 4 ∨ a = 5 by omega) with rfl | rfl | rfl | rfl | rfl | rfl
        · have key : Rt (some (.int (nI (w 7 j)))) M N := key
          rw [← c7 j hj] at key; exact key
        · have key : Rt (some (.int (nI (w 8 j)))) M N := key
          rw [← c8 j hj] at key; exact key
        · have key : Rt (some (.int (nI (w 9 j)))) M N := key
          rw [← c9 j hj] at key; exact key
        · have key : Rt (some (.int (nI (w 10 j)))) M N := key
          rw [← c10 j hj] at key; exact key
        · have key : Rt (some (.int (nI (w 11 j)))) M N := key
          have e := c11 j hj
          rw [Nat.zero_add] at e
          rw [← e] at key; exact key
        · exact absurd rfl y3
      · have ha5 : a = 5 := (nI_eq (b := 5) (by omega) (by omega)).mp y3
        subst ha5
        have key : Rt (some (.int (nI (if w 11 j = 1 then 0 else bt_ct1 (fun j => 1 - w 11 j) j)))) M N := key
        exact ⟨0, j, w 11, rfl, rfl, by omega, rfl, by omega, f18, fun k hk => c11 k (by omega), key⟩
    · rw [bt_bi_0, bt_inl_c (k := 5) (show (5 : Int64) = lN 5 from rfl) (by omega)] at y2
      rw [bt_bi_n0] at y
      have hx : ∀ a : Nat, a < 6 → ¬ x = nI a := fun a ha e => y2 (by rw [e, bt_in_nI (by omega)]; omega)
      rw [if_pos y, if_neg (show ¬ x = 0 from hx 0 (by omega)), if_neg (show ¬ x = 1 from hx 1 (by omega)), if_neg (show ¬ x = 2 from hx 2 (by omega)), if_neg (show ¬ x = 3 from hx 3 (by omega)), if_neg (show ¬ x = 4 from hx 4 (by omega)), if_neg (show ¬ x = 5 from hx 5 (by omega))] at key
      exact key
  · cases hf

def f_use : bt_fn := fun t S => match t, S with
  | [.int i, .int g], (w, im, u, z, q) => some (.int (if bt_in i (w 12 0) ∧ bt_in g 10 then nI (bt_us w i.toNatClampNeg g.toNatClampNeg) else -1), (w, im, u, z, q))
  | _, _ => none

def bt_CX5_use : bt_C := [(109, 1, 2, sX5_isStretch), (57, 0, 3, sX5_within), (157, 1, 3, sX4_ofUse)]
def sX5_use : bt_Sp := bt_spC f_use
set_option maxRecDepth 100000 in
theorem mX5_use : bt_MT bt_TX5_use bt_FX5 bt_CX5_use 1 3 sX5_use := by
  intro as M N Rt h P hP
  obtain ⟨t, S, r, S', rfl, hI, hf, h⟩ := bt_spC_e h
  obtain ⟨w, im, u, z, q⟩ := S
  unfold f_use at hf
  split at hf
  · next i g _ _ _ _ _ e =>
    cases e
    obtain ⟨rfl, rfl⟩ := bt_some hf
    obtain ⟨a1, a2, a3, a4, a5, a6, a7, a8, a9, a10, a11, a12⟩ := id hI
    obtain ⟨b0, b1, b2, b3, b4, b5, b6, b7, b8, b9, b10⟩ := id a2
    obtain ⟨hw, h8, h9, h10, h11, h12, h13, h14, h15, h16, h17, r1, r2, r3, r4, r5, r6, r7, r8⟩ := id a1
    obtain ⟨f1, f2, f3, f4, f5, f6, f7, f8, f9, f10, f11, f12, f13, f14, f15, f16, f17, f18⟩ := id hw
    have key := h M N (fun _ _ => rfl) hI
    refine bt_go0 rfl hP 40 ?_
    refine ⟨w 12 0, rfl, h8, f1, ⟨fun y => ?_, fun y => ?_⟩⟩
    · rw [bt_bi_0] at y
      rw [if_neg (fun c => y c.1)] at key
      exact key
    · rw [bt_bi_n0] at y
      refine ⟨fun y2 => ?_, fun y2 => ?_⟩
      · rw [bt_bi_n0, bt_in_c (k := 9) (show (9 : Int32) = nI 9 from rfl) (by omega)] at y2
        rw [if_pos ⟨y, y2⟩] at key
        obtain ⟨j, hj, rfl⟩ := bt_in_e y
        obtain ⟨a, ha, rfl⟩ := bt_in_e y2
        rw [bt_clm (by omega), bt_clm (by omega)] at key
        exact ⟨w, j, a, Or.inl rfl, a1, rfl, hj, rfl, by omega, key⟩
      · rw [bt_bi_0, bt_in_c (k := 9) (show (9 : Int32) = nI 9 from rfl) (by omega)] at y2
        rw [if_neg (fun c => y2 c.2)] at key
        exact key
  · cases hf

def bt_CX6_use : bt_C := [(149, 1, 2, sX6_isRoad), (46, 0, 3, sX6_in), (163, 1, 4, sX6_useOn)]
def sX6_use : bt_Sp := bt_spM f_use
set_option maxRecDepth 100000 in
theorem mX6_use : bt_MT bt_TX6_use bt_FX6 bt_CX6_use 1 3 sX6_use := by
  intro as M N Rt h P hP
  obtain ⟨t, S, r, S', rfl, hI, hf, h⟩ := bt_spM_e h
  obtain ⟨w, im, u, z, q⟩ := S
  unfold f_use at hf
  split at hf
  · next i g _ _ _ _ _ e =>
    cases e
    obtain ⟨rfl, rfl⟩ := bt_some hf
    obtain ⟨a1, a2, a3, a4, a5, a6, a7, a8, a9, a10, a11, a12, a13, a14, a15⟩ := id hI
    obtain ⟨b0, b1, b2, b3, b4, b5, b6, b7, b8, b9, b10⟩ := id a2
    obtain ⟨hw, g1, g2, g3, g4, g5, g6, r0, r1, r2, r3, r4, r5, r6, c7, c8, c9, c10, c11⟩ := id a1
    obtain ⟨f1, f2, f3, f4, f5, f6, f7, f8, f9, f10, f11, f12, f13, f14, f15, f16, f17, f18⟩ := id hw
    simp only [Nat.zero_add] at g3 g4 g5 g6 r0 r1 r2 r3 r4 r5 r6 c7 c8 c9 c10
    have key := h M (fun _ _ => rfl) hI
    refine bt_go0 rfl hP 40 ?_
    refine ⟨w 12 0, rfl, g1, f1, ⟨fun y => ?_, fun y => ?_⟩⟩
    · rw [bt_bi_0] at y
      rw [if_neg (fun c => y c.1)] at key
      exact key
    · rw [bt_bi_n0] at y
      refine ⟨fun y2 => ?_, fun y2 => ?_⟩
      · rw [bt_bi_0, bt_inl_c (k := 9) (show (9 : Int64) = lN 9 from rfl) (by omega)] at y2
        rw [if_neg (fun c => y2 c.2)] at key
        exact key
      · rw [bt_bi_n0, bt_inl_c (k := 9) (show (9 : Int64) = lN 9 from rfl) (by omega)] at y2
        rw [if_pos ⟨y, y2⟩] at key
        obtain ⟨j, hj, rfl⟩ := bt_in_e y
        obtain ⟨a, ha, rfl⟩ := bt_in_e y2
        rw [bt_clm (by omega), bt_clm (by omega)] at key
        exact ⟨0, j, a, w 6 j, w 1 j, w 4 j, rfl, rfl, by omega, rfl, by omega, rfl, by omega, by simpa using r6 j hj, f13 j, by simpa using r1 j hj, f8 j, by simpa using r4 j hj, f11 j, key⟩
  · cases hf

def f_gap : bt_fn := fun t S => match t, S with
  | [.int i, .int v], (w, im, u, z, q) => some (.int (if bt_in i (w 12 0) ∧ bt_in v 10 then nI (w 2 i.toNatClampNeg) else -1), (if bt_in i (w 12 0) ∧ bt_in v 10 then bt_w1 w 2 i.toNatClampNeg v.toNatClampNeg else w, im, u, z, q))
  | _, _ => none

def bt_CX5_gap : bt_C := [(109, 1, 2, sX5_isStretch), (57, 0, 3, sX5_within), (160, 0, 3, sX5_exchange)]
def sX5_gap : bt_Sp := bt_spC f_gap
set_option maxRecDepth 100000 in
theorem mX5_gap : bt_MT bt_TX5_gap bt_FX5 bt_CX5_gap 1 3 sX5_gap := by
  intro as M N Rt h P hP
  obtain ⟨t, S, r, S', rfl, hI, hf, h⟩ := bt_spC_e h
  obtain ⟨w, im, u, z, q⟩ := S
  unfold f_gap at hf
  split at hf
  · next i v _ _ _ _ _ e =>
    cases e
    obtain ⟨rfl, rfl⟩ := bt_some hf
    obtain ⟨a1, a2, a3, a4, a5, a6, a7, a8, a9, a10, a11, a12⟩ := id hI
    obtain ⟨b0, b1, b2, b3, b4, b5, b6, b7, b8, b9, b10⟩ := id a2
    obtain ⟨hw, h8, h9, h10, h11, h12, h13, h14, h15, h16, h17, r1, r2, r3, r4, r5, r6, r7, r8⟩ := id a1
    obtain ⟨f1, f2, f3, f4, f5, f6, f7, f8, f9, f10, f11, f12, f13, f14, f15, f16, f17, f18⟩ := id hw
    refine bt_go0 rfl hP 40 ?_
    refine ⟨w 12 0, rfl, h8, f1, ⟨fun y => ?_, fun y => ?_⟩⟩
    · rw [bt_bi_0] at y
      rw [if_neg (fun c => y c.1), if_neg (fun c => y c.1)] at h
      exact h M N (fun _ _ => rfl) hI
    · rw [bt_bi_n0] at y
      refine ⟨fun y2 => ?_, fun y2 => ?_⟩
      · rw [bt_bi_n0, bt_in_c (k := 9) (show (9 : Int32) = nI 9 from rfl) (by omega)] at y2
        rw [if_pos ⟨y, y2⟩, if_pos ⟨y, y2⟩] at h
        obtain ⟨j, hj, rfl⟩ := bt_in_e y
        obtain ⟨a, ha, rfl⟩ := bt_in_e y2
        rw [bt_clm (by omega), bt_clm (by omega)] at h
        refine ⟨_, j, rfl, rfl, by omega, fun M' e => ?_⟩
        have key := h M' N (fun x hx => by rw [e, bt_up_n (by omega)]) (bt_cI_live hI (bt_cW_row (r := 3) a1 (show a ≤ bt_at bt_bnd 2 0 from Nat.le_of_lt_succ ha) (by omega) (fun x hx => by rw [e, bt_up_n (by omega)]) (fun i => by rw [e, bt_up_s]; rfl)) ⟨rfl, rfl⟩ (fun x hx => by rw [e, bt_up_n (by omega)]))
        rw [← r3 j hj] at key
        exact key
      · rw [bt_bi_0, bt_in_c (k := 9) (show (9 : Int32) = nI 9 from rfl) (by omega)] at y2
        rw [if_neg (fun c => y2 c.2), if_neg (fun c => y2 c.2)] at h
        exact h M N (fun _ _ => rfl) hI
  · cases hf

def bt_CX6_gap : bt_C := [(149, 1, 2, sX6_isRoad), (46, 0, 3, sX6_in), (167, 1, 4, sX6_sets)]
def sX6_gap : bt_Sp := bt_spM f_gap
set_option maxRecDepth 100000 in
theorem mX6_gap : bt_MT bt_TX6_gap bt_FX6 bt_CX6_gap 1 3 sX6_gap := by
  intro as M N Rt h P hP
  obtain ⟨t, S, r, S', rfl, hI, hf, h⟩ := bt_spM_e h
  obtain ⟨w, im, u, z, q⟩ := S
  unfold f_gap at hf
  split at hf
  · next i v _ _ _ _ _ e =>
    cases e
    obtain ⟨rfl, rfl⟩ := bt_some hf
    obtain ⟨a1, a2, a3, a4, a5, a6, a7, a8, a9, a10, a11, a12, a13, a14, a15⟩ := id hI
    obtain ⟨b0, b1, b2, b3, b4, b5, b6, b7, b8, b9, b10⟩ := id a2
    obtain ⟨hw, g1, g2, g3, g4, g5, g6, r0, r1, r2, r3, r4, r5, r6, c7, c8, c9, c10, c11⟩ := id a1
    obtain ⟨f1, f2, f3, f4, f5, f6, f7, f8, f9, f10, f11, f12, f13, f14, f15, f16, f17, f18⟩ := id hw
    simp only [Nat.zero_add] at g3 g4 g5 g6 r0 r1 r2 r3 r4 r5 r6 c7 c8 c9 c10
    refine bt_go0 rfl hP 40 ?_
    have hbad : ¬ (bt_in i (w 12 0) ∧ bt_in v 10) → Rt (some (.int (-1))) M N := fun y => by
      rw [if_neg y, if_neg y] at h
      exact h M (fun _ _ => rfl) hI
    refine ⟨w 12 0, rfl, g1, f1, ⟨fun y => ?_, fun y => ?_⟩⟩
    · rw [bt_bi_0] at y
      exact ⟨rfl, fun _ => hbad (fun c => y c.1), fun c => absurd rfl c⟩
    · rw [bt_bi_n0] at y
      refine ⟨fun y2 => ?_, fun y2 => ?_⟩
      · rw [bt_bi_0, bt_inl_c (k := 9) (show (9 : Int64) = lN 9 from rfl) (by omega)] at y2
        exact ⟨rfl, fun _ => hbad (fun c => y2 c.2), fun c => absurd rfl c⟩
      · rw [bt_bi_n0, bt_inl_c (k := 9) (show (9 : Int64) = lN 9 from rfl) (by omega)] at y2
        rw [if_pos ⟨y, y2⟩, if_pos ⟨y, y2⟩] at h
        obtain ⟨j, hj, rfl⟩ := bt_in_e y
        obtain ⟨a, ha, rfl⟩ := bt_in_e y2
        rw [bt_clm (by omega), bt_clm (by omega)] at h
        refine ⟨rfl, fun c => absurd c (by decide), fun _ => ⟨7 * j + 2, by simp only [bt_lit, pk_mul, nI_add], by omega, fun M' e => ?_⟩⟩
        have key := h M' (fun x hx => by rw [e, bt_up_n (by omega)]) (bt_mI_live hI (bt_mW_st (f := 2) a1 (by omega) (by omega) (show a ≤ bt_at bt_bnd 2 0 from Nat.le_of_lt_succ ha) (fun x hx => by rw [e, bt_up_n hx]) (fun i hi => by rw [e, bt_up_s, pk_un (by omega)]) (by rw [if_neg (by omega), e, bt_up_s, Nat.zero_add, pk_us])) ⟨rfl, rfl⟩ (fun x _ hx => by rw [e, bt_up_n hx]) (fun i hi _ => by rw [e, bt_up_s, pk_un (by omega)]))
        rw [← r2 j hj] at key
        exact key
  · cases hf

def f_sight : bt_fn := fun t S => match t, S with
  | [.int i, .int v], (w, im, u, z, q) => some (.int (if bt_in i (w 12 0) ∧ bt_in v 10 then nI (w 1 i.toNatClampNeg) else -1), (if bt_in i (w 12 0) ∧ bt_in v 10 then bt_w1 w 1 i.toNatClampNeg v.toNatClampNeg else w, im, u, z, q))
  | _, _ => none

def bt_CX5_sight : bt_C := [(109, 1, 2, sX5_isStretch), (57, 0, 3, sX5_within), (160, 0, 3, sX5_exchange)]
def sX5_sight : bt_Sp := bt_spC f_sight
set_option maxRecDepth 100000 in
theorem mX5_sight : bt_MT bt_TX5_sight bt_FX5 bt_CX5_sight 1 3 sX5_sight := by
  intro as M N Rt h P hP
  obtain ⟨t, S, r, S', rfl, hI, hf, h⟩ := bt_spC_e h
  obtain ⟨w, im, u, z, q⟩ := S
  unfold f_sight at hf
  split at hf
  · next i v _ _ _ _ _ e =>
    cases e
    obtain ⟨rfl, rfl⟩ := bt_some hf
    obtain ⟨a1, a2, a3, a4, a5, a6, a7, a8, a9, a10, a11, a12⟩ := id hI
    obtain ⟨b0, b1, b2, b3, b4, b5, b6, b7, b8, b9, b10⟩ := id a2
    obtain ⟨hw, h8, h9, h10, h11, h12, h13, h14, h15, h16, h17, r1, r2, r3, r4, r5, r6, r7, r8⟩ := id a1
    obtain ⟨f1, f2, f3, f4, f5, f6, f7, f8, f9, f10, f11, f12, f13, f14, f15, f16, f17, f18⟩ := id hw
    refine bt_go0 rfl hP 40 ?_
    refine ⟨w 12 0, rfl, h8, f1, ⟨fun y => ?_, fun y => ?_⟩⟩
    · rw [bt_bi_0] at y
      rw [if_neg (fun c => y c.1), if_neg (fun c => y c.1)] at h
      exact h M N (fun _ _ => rfl) hI
    · rw [bt_bi_n0] at y
      refine ⟨fun y2 => ?_, fun y2 => ?_⟩
      · rw [bt_bi_n0, bt_in_c (k := 9) (show (9 : Int32) = nI 9 from rfl) (by omega)] at y2
        rw [if_pos ⟨y, y2⟩, if_pos ⟨y, y2⟩] at h
        obtain ⟨j, hj, rfl⟩ := bt_in_e y
        obtain ⟨a, ha, rfl⟩ := bt_in_e y2
        rw [bt_clm (by omega), bt_clm (by omega)] at h
        refine ⟨_, j, rfl, rfl, by omega, fun M' e => ?_⟩
        have key := h M' N (fun x hx => by rw [e, bt_up_n (by omega)]) (bt_cI_live hI (bt_cW_row (r := 2) a1 (show a ≤ bt_at bt_bnd 1 0 from Nat.le_of_lt_succ ha) (by omega) (fun x hx => by rw [e, bt_up_n (by omega)]) (fun i => by rw [e, bt_up_s]; rfl)) ⟨rfl, rfl⟩ (fun x hx => by rw [e, bt_up_n (by omega)]))
        rw [← r2 j hj] at key
        exact key
      · rw [bt_bi_0, bt_in_c (k := 9) (show (9 : Int32) = nI 9 from rfl) (by omega)] at y2
        rw [if_neg (fun c => y2 c.2), if_neg (fun c => y2 c.2)] at h
        exact h M N (fun _ _ => rfl) hI
  · cases hf

def bt_CX6_sight : bt_C := [(149, 1, 2, sX6_isRoad), (46, 0, 3, sX6_in), (167, 1, 4, sX6_sets)]
def sX6_sight : bt_Sp := bt_spM f_sight
set_option maxRecDepth 100000 in
theorem mX6_sight : bt_MT bt_TX6_sight bt_FX6 bt_CX6_sight 1 3 sX6_sight := by
  intro as M N Rt h P hP
  obtain ⟨t, S, r, S', rfl, hI, hf, h⟩ := bt_spM_e h
  obtain ⟨w, im, u, z, q⟩ := S
  unfold f_sight at hf
  split at hf
  · next i v _ _ _ _ _ e =>
    cases e
    obtain ⟨rfl, rfl⟩ := bt_some hf
    obtain ⟨a1, a2, a3, a4, a5, a6, a7, a8, a9, a10, a11, a12, a13, a14, a15⟩ := id hI
    obtain ⟨b0, b1, b2, b3, b4, b5, b6, b7, b8, b9, b10⟩ := id a2
    obtain ⟨hw, g1, g2, g3, g4, g5, g6, r0, r1, r2, r3, r4, r5, r6, c7, c8, c9, c10, c11⟩ := id a1
    obtain ⟨f1, f2, f3, f4, f5, f6, f7, f8, f9, f10, f11, f12, f13, f14, f15, f16, f17, f18⟩ := id hw
    simp only [Nat.zero_add] at g3 g4 g5 g6 r0 r1 r2 r3 r4 r5 r6 c7 c8 c9 c10
    refine bt_go0 rfl hP 40 ?_
    have hbad : ¬ (bt_in i (w 12 0) ∧ bt_in v 10) → Rt (some (.int (-1))) M N := fun y => by
      rw [if_neg y, if_neg y] at h
      exact h M (fun _ _ => rfl) hI
    refine ⟨w 12 0, rfl, g1, f1, ⟨fun y => ?_, fun y => ?_⟩⟩
    · rw [bt_bi_0] at y
      exact ⟨rfl, fun _ => hbad (fun c => y c.1), fun c => absurd rfl c⟩
    · rw [bt_bi_n0] at y
      refine ⟨fun y2 => ?_, fun y2 => ?_⟩
      · rw [bt_bi_0, bt_inl_c (k := 9) (show (9 : Int64) = lN 9 from rfl) (by omega)] at y2
        exact ⟨rfl, fun _ => hbad (fun c => y2 c.2), fun c => absurd rfl c⟩
      · rw [bt_bi_n0, bt_inl_c (k := 9) (show (9 : Int64) = lN 9 from rfl) (by omega)] at y2
        rw [if_pos ⟨y, y2⟩, if_pos ⟨y, y2⟩] at h
        obtain ⟨j, hj, rfl⟩ := bt_in_e y
        obtain ⟨a, ha, rfl⟩ := bt_in_e y2
        rw [bt_clm (by omega), bt_clm (by omega)] at h
        refine ⟨rfl, fun c => absurd c (by decide), fun _ => ⟨7 * j + 1, by simp only [bt_lit, pk_mul, nI_add], by omega, fun M' e => ?_⟩⟩
        have key := h M' (fun x hx => by rw [e, bt_up_n (by omega)]) (bt_mI_live hI (bt_mW_st (f := 1) a1 (by omega) (by omega) (show a ≤ bt_at bt_bnd 1 0 from Nat.le_of_lt_succ ha) (fun x hx => by rw [e, bt_up_n hx]) (fun i hi => by rw [e, bt_up_s, pk_un (by omega)]) (by rw [if_neg (by omega), e, bt_up_s, Nat.zero_add, pk_us])) ⟨rfl, rfl⟩ (fun x _ hx => by rw [e, bt_up_n hx]) (fun i hi _ => by rw [e, bt_up_s, pk_un (by omega)]))
        rw [← r1 j hj] at key
        exact key
  · cases hf

def f_odd : bt_fn := fun t S => match t, S with
  | [.int i, .int v], (w, im, u, z, q) => some (.int (if bt_in i (w 12 0) ∧ bt_in v 11 then nI (w 3 i.toNatClampNeg) else -1), (if bt_in i (w 12 0) ∧ bt_in v 11 then bt_w1 w 3 i.toNatClampNeg v.toNatClampNeg else w, im, u, z, q))
  | _, _ => none

def bt_CX5_odd : bt_C := [(109, 1, 2, sX5_isStretch), (57, 0, 3, sX5_within), (160, 0, 3, sX5_exchange)]
def sX5_odd : bt_Sp := bt_spC f_odd
set_option maxRecDepth 100000 in
theorem mX5_odd : bt_MT bt_TX5_odd bt_FX5 bt_CX5_odd 1 3 sX5_odd := by
  intro as M N Rt h P hP
  obtain ⟨t, S, r, S', rfl, hI, hf, h⟩ := bt_spC_e h
  obtain ⟨w, im, u, z, q⟩ := S
  unfold f_odd at hf
  split at hf
  · next i v _ _ _ _ _ e =>
    cases e
    obtain ⟨rfl, rfl⟩ := bt_some hf
    obtain ⟨a1, a2, a3, a4, a5, a6, a7, a8, a9, a10, a11, a12⟩ := id hI
    obtain ⟨b0, b1, b2, b3, b4, b5, b6, b7, b8, b9, b10⟩ := id a2
    obtain ⟨hw, h8, h9, h10, h11, h12, h13, h14, h15, h16, h17, r1, r2, r3, r4, r5, r6, r7, r8⟩ := id a1
    obtain ⟨f1, f2, f3, f4, f5, f6, f7, f8, f9, f10, f11, f12, f13, f14, f15, f16, f17, f18⟩ := id hw
    refine bt_go0 rfl hP 40 ?_
    refine ⟨w 12 0, rfl, h8, f1, ⟨fun y => ?_, fun y => ?_⟩⟩
    · rw [bt_bi_0] at y
      rw [if_neg (fun c => y c.1), if_neg (fun c => y c.1)] at h
      exact h M N (fun _ _ => rfl) hI
    · rw [bt_bi_n0] at y
      refine ⟨fun y2 => ?_, fun y2 => ?_⟩
      · rw [bt_bi_n0, bt_in_c (k := 10) (show (10 : Int32) = nI 10 from rfl) (by omega)] at y2
        rw [if_pos ⟨y, y2⟩, if_pos ⟨y, y2⟩] at h
        obtain ⟨j, hj, rfl⟩ := bt_in_e y
        obtain ⟨a, ha, rfl⟩ := bt_in_e y2
        rw [bt_clm (by omega), bt_clm (by omega)] at h
        refine ⟨_, j, rfl, rfl, by omega, fun M' e => ?_⟩
        have key := h M' N (fun x hx => by rw [e, bt_up_n (by omega)]) (bt_cI_live hI (bt_cW_row (r := 4) a1 (show a ≤ bt_at bt_bnd 3 0 from Nat.le_of_lt_succ ha) (by omega) (fun x hx => by rw [e, bt_up_n (by omega)]) (fun i => by rw [e, bt_up_s]; rfl)) ⟨rfl, rfl⟩ (fun x hx => by rw [e, bt_up_n (by omega)]))
        rw [← r4 j hj] at key
        exact key
      · rw [bt_bi_0, bt_in_c (k := 10) (show (10 : Int32) = nI 10 from rfl) (by omega)] at y2
        rw [if_neg (fun c => y2 c.2), if_neg (fun c => y2 c.2)] at h
        exact h M N (fun _ _ => rfl) hI
  · cases hf

def bt_CX6_odd : bt_C := [(149, 1, 2, sX6_isRoad), (46, 0, 3, sX6_in), (167, 1, 4, sX6_sets)]
def sX6_odd : bt_Sp := bt_spM f_odd
set_option maxRecDepth 100000 in
theorem mX6_odd : bt_MT bt_TX6_odd bt_FX6 bt_CX6_odd 1 3 sX6_odd := by
  intro as M N Rt h P hP
  obtain ⟨t, S, r, S', rfl, hI, hf, h⟩ := bt_spM_e h
  obtain ⟨w, im, u, z, q⟩ := S
  unfold f_odd at hf
  split at hf
  · next i v _ _ _ _ _ e =>
    cases e
    obtain ⟨rfl, rfl⟩ := bt_some hf
    obtain ⟨a1, a2, a3, a4, a5, a6, a7, a8, a9, a10, a11, a12, a13, a14, a15⟩ := id hI
    obtain ⟨b0, b1, b2, b3, b4, b5, b6, b7, b8, b9, b10⟩ := id a2
    obtain ⟨hw, g1, g2, g3, g4, g5, g6, r0, r1, r2, r3, r4, r5, r6, c7, c8, c9, c10, c11⟩ := id a1
    obtain ⟨f1, f2, f3, f4, f5, f6, f7, f8, f9, f10, f11, f12, f13, f14, f15, f16, f17, f18⟩ := id hw
    simp only [Nat.zero_add] at g3 g4 g5 g6 r0 r1 r2 r3 r4 r5 r6 c7 c8 c9 c10
    refine bt_go0 rfl hP 40 ?_
    have hbad : ¬ (bt_in i (w 12 0) ∧ bt_in v 11) → Rt (some (.int (-1))) M N := fun y => by
      rw [if_neg y, if_neg y] at h
      exact h M (fun _ _ => rfl) hI
    refine ⟨w 12 0, rfl, g1, f1, ⟨fun y => ?_, fun y => ?_⟩⟩
    · rw [bt_bi_0] at y
      exact hbad (fun c => y c.1)
    · rw [bt_bi_n0] at y
      refine ⟨fun y2 => ?_, fun y2 => ?_⟩
      · rw [bt_bi_0, bt_inl_c (k := 10) (show (10 : Int64) = lN 10 from rfl) (by omega)] at y2
        exact hbad (fun c => y2 c.2)
      · rw [bt_bi_n0, bt_inl_c (k := 10) (show (10 : Int64) = lN 10 from rfl) (by omega)] at y2
        rw [if_pos ⟨y, y2⟩, if_pos ⟨y, y2⟩] at h
        obtain ⟨j, hj, rfl⟩ := bt_in_e y
        obtain ⟨a, ha, rfl⟩ := bt_in_e y2
        rw [bt_clm (by omega), bt_clm (by omega)] at h
        refine ⟨rfl, fun c => absurd c (by decide), fun _ => ⟨7 * j + 3, by simp only [bt_lit, pk_mul, nI_add], by omega, fun M' e => ?_⟩⟩
        have key := h M' (fun x hx => by rw [e, bt_up_n (by omega)]) (bt_mI_live hI (bt_mW_st (f := 3) a1 (by omega) (by omega) (show a ≤ bt_at bt_bnd 3 0 from Nat.le_of_lt_succ ha) (fun x hx => by rw [e, bt_up_n hx]) (fun i hi => by rw [e, bt_up_s, pk_un (by omega)]) (by rw [if_pos rfl, e, bt_up_s, Nat.zero_add, pk_us])) ⟨rfl, rfl⟩ (fun x _ hx => by rw [e, bt_up_n hx]) (fun i hi _ => by rw [e, bt_up_s, pk_un (by omega)]))
        rw [← bt_m10 (nI (w 3 j)), ← r3 j hj, Int32.add_comm] at key
        exact key
  · cases hf
end
section
/-! CALLS, BOTH SIDES: the tape, what is changed, arrivals -/
theorem bt_by : ∀ a, a < 128 → (nI a).toInt8.toInt32 = nI a := by decide +kernel
abbrev bt_nd (x : Int32) : Prop := 1 ≤ x.toInt ∧ x.toInt ≤ 9
theorem bt_nd_c {x : Int32} : ((1 : Int32) ≤ x ∧ x ≤ 9) ↔ bt_nd x := by
  rw [Int32.le_iff_toInt_le, Int32.le_iff_toInt_le]
  exact Iff.rfl
theorem bt_nd_l {x : Int32} : ((1 : Int64) ≤ x.toInt64 ∧ x.toInt64 ≤ 9) ↔ bt_nd x := by
  rw [Int64.le_iff_toInt_le, Int64.le_iff_toInt_le, Int32.toInt_toInt64]
  exact Iff.rfl
theorem bt_nd_e {x : Int32} (h : bt_nd x) : ∃ j, j ≤ 9 ∧ x = nI j := by
  obtain ⟨j, h1, h2⟩ := bt_in_e (n := 10) (x := x) ⟨by omega, by omega⟩
  exact ⟨j, by omega, h2⟩
/-- numbers and rows change, the worlds stay -/
theorem bt_cI_uz {M M' : bt_M} {w : bt_W} {im : Nat → bt_W} {u u' : Nat → Nat} {z z' : Nat → Nat → Nat} {q : Nat → Nat → Int32} (h : bt_cI M (w, im, u, z, q)) (hs : bt_sW w im u' z') (hu : u' 1 = u 1 ∧ u' 3 = u 3 ∧ u' 4 = u 4 ∧ u' 2 = u 2 ∧ ∀ k, k < 4 → u' (6 + k) = u (6 + k) ∧ u' (10 + k) = u (10 + k)) (h1 : ∀ x : Nat, ((2 ≤ x ∧ x ≤ 10) ∨ (21 ≤ x ∧ x ≤ 48)) → M' x = M x) (h0 : ∀ f, f ≠ 8 → M' 0 f = M 0 f) (h8 : M' 0 8 = nI (u' 0)) (ht : ∀ j, j < u' 0 → M' 1 j = nI (z' 0 j)) (h5 : M' 49 5 = nI (u' 5)) (hn : ∀ n, n < u' 5 → M' 50 n = nI (z' 1 n) ∧ M' 51 n = nI (z' 2 n)) : bt_cI M' (w, im, u', z', q) := by
  obtain ⟨a1, a2, a3, a4, a5, a6, a7, a8, a9, a10, a11, a12⟩ := h
  obtain ⟨u1, u3, u4, u2, u6⟩ := hu
  refine ⟨bt_cW_kept a1 (fun x _ _ => h1 x (by omega)), hs, h8, ht, ?_, ?_, ?_, ?_, ?_, ?_, h5, hn⟩
  · rw [h0 9 (by omega), u1]; exact a5
  · rw [h0 10 (by omega), u3, u4]; exact a6
  · rw [h0 11 (by omega), u2]; exact a7
  · rw [u3]; exact fun y => bt_cW_kept (a8 y) (fun x _ _ => h1 x (by omega))
  · rw [u4]; exact fun y => bt_cW_kept (a9 y) (fun x _ _ => h1 x (by omega))
  · intro k hk
    rw [h1 (41 + 2 * k) (by omega), h1 (42 + 2 * k) (by omega), (u6 k hk).1, (u6 k hk).2]; exact a10 k hk
theorem bt_mW_far {M M' : bt_M} {p : Nat} {w : bt_W} (hw : bt_mW M p w) (h1 : M' 67 1 = M 67 1 ∧ M' 67 2 = M 67 2) (h2 : M' 68 = M 68) : bt_mW M' p w := by
  obtain ⟨hf, g1, g2, rest⟩ := hw
  unfold bt_mW bt_pg
  rw [h1.1, h1.2, h2]
  exact ⟨hf, g1, g2, rest⟩
theorem bt_mI_uz {M M' : bt_M} {w : bt_W} {im : Nat → bt_W} {u u' : Nat → Nat} {z z' : Nat → Nat → Nat} {q : Nat → Nat → Int32} (h : bt_mI M (w, im, u, z, q)) (hs : bt_sW w im u' z') (hu : u' 1 = u 1 ∧ u' 3 = u 3 ∧ u' 4 = u 4 ∧ u' 2 = u 2 ∧ ∀ k, k < 4 → u' (6 + k) = u (6 + k) ∧ u' (10 + k) = u (10 + k)) (h1 : ∀ x : Nat, 68 ≤ x → x ≠ 71 → x ≠ 74 → M' x = M x) (h0 : ∀ f, f ≠ 10 → f ≠ 21 → M' 67 f = M 67 f) (h8 : M' 67 10 = nI (u' 0)) (ht : ∀ j, j < u' 0 → M' 71 j = nI (z' 0 j)) (h5 : M' 67 21 = nI (u' 5)) (hn : ∀ n, n < u' 5 → M' 74 (2 * n) = nI (z' 1 n) ∧ M' 74 (2 * n + 1) = nI (z' 2 n)) : bt_mI M' (w, im, u', z', q) := by
  obtain ⟨a1, a2, a3, a4, a5, a6, a7, a8, a9, a10, a11, a12, a13, a14, a15⟩ := h
  obtain ⟨u1, u3, u4, u2, u6⟩ := hu
  have k12 : M' 67 1 = M 67 1 ∧ M' 67 2 = M 67 2 := ⟨h0 1 (by omega) (by omega), h0 2 (by omega) (by omega)⟩
  have k68 : M' 68 = M 68 := h1 68 (by omega) (by omega) (by omega)
  refine ⟨bt_mW_far a1 k12 k68, hs, h8, ht, ?_, ?_, ?_, ?_, ?_, ?_, ?_, h5, hn, ?_, ?_⟩
  · rw [h0 11 (by omega) (by omega), u1]; exact a5
  · rw [h0 26 (by omega) (by omega), u2]; exact a6
  · rw [h1 75 (by omega) (by omega) (by omega), u3]; exact a7
  · rw [h1 75 (by omega) (by omega) (by omega), u4]; exact a8
  · rw [u3]; exact fun y => bt_mW_far (a9 y) k12 k68
  · rw [u4]; exact fun y => bt_mW_far (a10 y) k12 k68
  · intro k hk
    rw [h1 76 (by omega) (by omega) (by omega), h1 77 (by omega) (by omega) (by omega), h1 78 (by omega) (by omega) (by omega), (u6 k hk).1, (u6 k hk).2]; exact a11 k hk
  · rw [h1 72 (by omega) (by omega) (by omega)]; exact a14
  · rw [h1 73 (by omega) (by omega) (by omega)]; exact a15
theorem bt_un {u : Nat → Nat} {i v : Nat} : ∀ k, k ≠ i → va_up u i v k = u k := fun k h => bt_up_n h

def f_polite : bt_fn := fun t S => match t, S with
  | [.int v], (w, im, u, z, q) => some (.int (if bt_in v 7 then nI (w 12 3) else -1), (if bt_in v 7 then bt_w1 w 12 3 v.toNatClampNeg else w, im, u, z, q))
  | _, _ => none

def bt_CX5_polite : bt_C := [(57, 0, 3, sX5_within)]
def sX5_polite : bt_Sp := bt_spC f_polite
set_option maxRecDepth 100000 in
theorem mX5_polite : bt_MT bt_TX5_polite bt_FX5 bt_CX5_polite 1 3 sX5_polite := by
  intro as M N Rt h P hP
  obtain ⟨t, S, r, S', rfl, hI, hf, h⟩ := bt_spC_e h
  obtain ⟨w, im, u, z, q⟩ := S
  unfold f_polite at hf
  split at hf
  · next v _ _ _ _ _ e =>
    cases e
    obtain ⟨rfl, rfl⟩ := bt_some hf
    obtain ⟨a1, a2, a3, a4, a5, a6, a7, a8, a9, a10, a11, a12⟩ := id hI
    obtain ⟨b0, b1, b2, b3, b4, b5, b6, b7, b8, b9, b10⟩ := id a2
    obtain ⟨hw, h8, h9, h10, h11, h12, h13, h14, h15, h16, h17, r1, r2, r3, r4, r5, r6, r7, r8⟩ := id a1
    obtain ⟨f1, f2, f3, f4, f5, f6, f7, f8, f9, f10, f11, f12, f13, f14, f15, f16, f17, f18⟩ := id hw
    refine bt_go0 rfl hP 40 ?_
    refine ⟨fun y => ?_, fun y => ?_⟩
    · rw [bt_bi_n0, bt_in_c (k := 6) (show (6 : Int32) = nI 6 from rfl) (by omega)] at y
      rw [if_pos y, if_pos y] at h
      obtain ⟨j, hj, rfl⟩ := bt_in_e y
      rw [bt_clm (by omega)] at h
      intro M' e
      have key := h M' N (fun x hx => by rw [e, bt_up_n (by omega)]) (bt_cI_live hI (bt_cW_le a1 (Nat.le_of_lt_succ hj) (fun x hx => by rw [e, bt_up_n hx]) (fun i hi => by rw [e, bt_up_s, pk_un hi]) (by rw [e, bt_up_s, pk_us])) ⟨rfl, rfl⟩ (fun x hx => by rw [e, bt_up_n (by omega)]))
      rw [← h15] at key
      exact key
    · rw [bt_bi_0, bt_in_c (k := 6) (show (6 : Int32) = nI 6 from rfl) (by omega)] at y
      rw [if_neg y, if_neg y] at h
      exact h M N (fun _ _ => rfl) hI
  · cases hf

def bt_CX6_polite : bt_C := [(46, 0, 3, sX6_in), (167, 1, 4, sX6_sets)]
def sX6_polite : bt_Sp := bt_spM f_polite
set_option maxRecDepth 100000 in
theorem mX6_polite : bt_MT bt_TX6_polite bt_FX6 bt_CX6_polite 1 2 sX6_polite := by
  intro as M N Rt h P hP
  obtain ⟨t, S, r, S', rfl, hI, hf, h⟩ := bt_spM_e h
  obtain ⟨w, im, u, z, q⟩ := S
  unfold f_polite at hf
  split at hf
  · next v _ _ _ _ _ e =>
    cases e
    obtain ⟨rfl, rfl⟩ := bt_some hf
    obtain ⟨a1, a2, a3, a4, a5, a6, a7, a8, a9, a10, a11, a12, a13, a14, a15⟩ := id hI
    obtain ⟨b0, b1, b2, b3, b4, b5, b6, b7, b8, b9, b10⟩ := id a2
    obtain ⟨hw, g1, g2, g3, g4, g5, g6, r0, r1, r2, r3, r4, r5, r6, c7, c8, c9, c10, c11⟩ := id a1
    obtain ⟨f1, f2, f3, f4, f5, f6, f7, f8, f9, f10, f11, f12, f13, f14, f15, f16, f17, f18⟩ := id hw
    simp only [Nat.zero_add] at g3 g4 g5 g6 r0 r1 r2 r3 r4 r5 r6 c7 c8 c9 c10
    refine bt_go0 rfl hP 40 ?_
    refine ⟨rfl, fun y => ?_, fun y => ?_⟩
    · rw [bt_bi_0, bt_inl_c (k := 6) (show (6 : Int64) = lN 6 from rfl) (by omega)] at y
      rw [if_neg y, if_neg y] at h
      exact h M (fun _ _ => rfl) hI
    · rw [bt_bi_n0, bt_inl_c (k := 6) (show (6 : Int64) = lN 6 from rfl) (by omega)] at y
      rw [if_pos y, if_pos y] at h
      obtain ⟨j, hj, rfl⟩ := bt_in_e y
      rw [bt_clm (by omega)] at h
      refine ⟨57, rfl, by omega, fun M' e => ?_⟩
      have key := h M' (fun x hx => by rw [e, bt_up_n (by omega)]) (bt_mI_live hI (bt_mW_le a1 (Nat.le_of_lt_succ hj) (fun x hx => by rw [e, bt_up_n hx]) (fun i hi => by rw [e, bt_up_s, pk_un (by omega)]) (by rw [e, bt_up_s, Nat.zero_add, pk_us])) ⟨rfl, rfl⟩ (fun x _ hx => by rw [e, bt_up_n hx]) (fun i hi _ => by rw [e, bt_up_s, pk_un (by omega)]))
      rw [← g4] at key
      exact key
  · cases hf

def f_build : bt_fn := fun t S => match t, S with
  | [.int i, .int x, .int b], (w, im, u, z, q) => some (.int (if bt_in i (w 12 0) then (if x = 0 then nI (w 5 i.toNatClampNeg) else if x = 1 then nI (w 6 i.toNatClampNeg) else if x = 2 then nI (w 4 i.toNatClampNeg) else -1) else -1), (if bt_in i (w 12 0) then (if x = 0 then bt_w1 w 5 i.toNatClampNeg (if b = 0 then 0 else 1) else if x = 1 then bt_w1 w 6 i.toNatClampNeg (if b = 0 then 0 else 1) else if x = 2 then bt_w1 w 4 i.toNatClampNeg (if b = 0 then 0 else 1) else w) else w, im, u, z, q))
  | _, _ => none

def bt_CX5_build : bt_C := [(109, 1, 2, sX5_isStretch), (129, 0, 2, sX5_bit), (164, 0, 3, sX5_withBit)]
def sX5_build : bt_Sp := bt_spC f_build
set_option maxRecDepth 100000 in
theorem mX5_build : bt_MT bt_TX5_build bt_FX5 bt_CX5_build 1 5 sX5_build := by
  intro as M N Rt h P hP
  obtain ⟨t, S, r, S', rfl, hI, hf, h⟩ := bt_spC_e h
  obtain ⟨w, im, u, z, q⟩ := S
  unfold f_build at hf
  split at hf
  · next i x b _ _ _ _ _ e =>
    cases e
    obtain ⟨rfl, rfl⟩ := bt_some hf
    obtain ⟨a1, a2, a3, a4, a5, a6, a7, a8, a9, a10, a11, a12⟩ := id hI
    obtain ⟨b0, b1, b2, b3, b4, b5, b6, b7, b8, b9, b10⟩ := id a2
    obtain ⟨hw, h8, h9, h10, h11, h12, h13, h14, h15, h16, h17, r1, r2, r3, r4, r5, r6, r7, r8⟩ := id a1
    obtain ⟨f1, f2, f3, f4, f5, f6, f7, f8, f9, f10, f11, f12, f13, f14, f15, f16, f17, f18⟩ := id hw
    refine bt_go0 rfl hP 60 ?_
    have hv : (if b = 0 then 0 else 1) ≤ 1 := by split <;> omega
    refine ⟨w 12 0, rfl, h8, f1, ⟨fun y => ?_, fun y => ?_⟩⟩
    · rw [bt_bi_n0] at y
      rw [if_pos y, if_pos y] at h
      obtain ⟨j, hj, rfl⟩ := bt_in_e y
      rw [bt_clm (by omega)] at h
      refine ⟨fun z0 => ?_, fun z0 => ⟨fun z1 => ?_, fun z1 => ⟨fun z2 => ?_, fun z2 => ?_⟩⟩⟩
      · rw [if_pos z0, if_pos z0] at h
        intro M' e
        have eb := bt_bitN f12 (n := w 12 0) (k := j) (by omega) (by omega)
        rw [if_pos hj, ← h10] at eb
        have key := h M' N (fun x hx => by rw [e, bt_up_n (by omega)]) (bt_cI_live hI (bt_cW_mask (s := 10) a1 hv (by omega) (fun x hx => by rw [e, bt_up_n hx]) (fun i hi => by rw [e, bt_up_s, pk_un hi]) (by rw [e, bt_up_s, pk_us, h10]; exact bt_setb f12 f1 hj b)) ⟨rfl, rfl⟩ (fun x hx => by rw [e, bt_up_n (by omega)]))
        rw [← eb] at key
        exact key
      · rw [if_neg z0, if_pos z1, if_neg z0, if_pos z1] at h
        intro M' e
        have eb := bt_bitN f13 (n := w 12 0) (k := j) (by omega) (by omega)
        rw [if_pos hj, ← h11] at eb
        have key := h M' N (fun x hx => by rw [e, bt_up_n (by omega)]) (bt_cI_live hI (bt_cW_mask (s := 11) a1 hv (by omega) (fun x hx => by rw [e, bt_up_n hx]) (fun i hi => by rw [e, bt_up_s, pk_un hi]) (by rw [e, bt_up_s, pk_us, h11]; exact bt_setb f13 f1 hj b)) ⟨rfl, rfl⟩ (fun x hx => by rw [e, bt_up_n (by omega)]))
        rw [← eb] at key
        exact key
      · rw [if_neg z0, if_neg z1, if_pos z2, if_neg z0, if_neg z1, if_pos z2] at h
        intro M' e
        have eb := bt_bitN f11 (n := w 12 0) (k := j) (by omega) (by omega)
        rw [if_pos hj, ← h9] at eb
        have key := h M' N (fun x hx => by rw [e, bt_up_n (by omega)]) (bt_cI_live hI (bt_cW_mask (s := 9) a1 hv (by omega) (fun x hx => by rw [e, bt_up_n hx]) (fun i hi => by rw [e, bt_up_s, pk_un hi]) (by rw [e, bt_up_s, pk_us, h9]; exact bt_setb f11 f1 hj b)) ⟨rfl, rfl⟩ (fun x hx => by rw [e, bt_up_n (by omega)]))
        rw [← eb] at key
        exact key
      · rw [if_neg z0, if_neg z1, if_neg z2, if_neg z0, if_neg z1, if_neg z2] at h
        exact h M N (fun _ _ => rfl) hI
    · rw [bt_bi_0] at y
      rw [if_neg y, if_neg y] at h
      exact h M N (fun _ _ => rfl) hI
  · cases hf

def bt_CX6_build : bt_C := [(149, 1, 2, sX6_isRoad), (46, 0, 3, sX6_in), (167, 1, 4, sX6_sets)]
def sX6_build : bt_Sp := bt_spM f_build
set_option maxRecDepth 100000 in
theorem mX6_build : bt_MT bt_TX6_build bt_FX6 bt_CX6_build 1 5 sX6_build := by
  intro as M N Rt h P hP
  obtain ⟨t, S, r, S', rfl, hI, hf, h⟩ := bt_spM_e h
  obtain ⟨w, im, u, z, q⟩ := S
  unfold f_build at hf
  split at hf
  · next i x b _ _ _ _ _ e =>
    cases e
    obtain ⟨rfl, rfl⟩ := bt_some hf
    obtain ⟨a1, a2, a3, a4, a5, a6, a7, a8, a9, a10, a11, a12, a13, a14, a15⟩ := id hI
    obtain ⟨b0, b1, b2, b3, b4, b5, b6, b7, b8, b9, b10⟩ := id a2
    obtain ⟨hw, g1, g2, g3, g4, g5, g6, r0, r1, r2, r3, r4, r5, r6, c7, c8, c9, c10, c11⟩ := id a1
    obtain ⟨f1, f2, f3, f4, f5, f6, f7, f8, f9, f10, f11, f12, f13, f14, f15, f16, f17, f18⟩ := id hw
    simp only [Nat.zero_add] at g3 g4 g5 g6 r0 r1 r2 r3 r4 r5 r6 c7 c8 c9 c10
    have hbad : ¬ bt_in i (w 12 0) ∨ ¬ bt_in x 3 → Rt (some (.int (-1))) M N := by
      rintro (y | y)
      · rw [if_neg y, if_neg y] at h
        exact h M (fun _ _ => rfl) hI
      · have hx : ∀ a : Nat, a < 3 → ¬ x = nI a := fun a ha e => y (by rw [e, bt_in_nI (by omega)]; exact ha)
        rw [if_neg (show ¬ x = 0 from hx 0 (by omega)), if_neg (show ¬ x = 1 from hx 1 (by omega)), if_neg (show ¬ x = 2 from hx 2 (by omega)), if_neg (show ¬ x = 0 from hx 0 (by omega)), if_neg (show ¬ x = 1 from hx 1 (by omega)), if_neg (show ¬ x = 2 from hx 2 (by omega))] at h
        rw [ite_self, ite_self] at h
        exact h M (fun _ _ => rfl) hI
    have hgood : ∀ j f at_ v, i = nI j → j < w 12 0 → (f = 4 ∨ f = 5 ∨ f = 6) → v = (if b = 0 then 0 else 1) → ((x = 0 ∧ f = 5) ∨ (x = 1 ∧ f = 6) ∨ (x = 2 ∧ f = 4)) → at_ = nI f → ∃ j', 7 * i + at_ = nI j' ∧ j' < 540 ∧ ∀ M', M' = va_up M 68 (upd (M 68) j' (nI v)) → Rt (some (.int (M 68 j'))) M' N := by
      rintro j f at_ v rfl hj hf6 hv hx rfl
      refine ⟨7 * j + f, by simp only [bt_lit, pk_mul, nI_add], by omega, fun M' e => ?_⟩
      have hv1 : v ≤ 1 := by rw [hv]; split <;> omega
      have hbd : v ≤ bt_at bt_bnd f 0 := by rcases hf6 with rfl | rfl | rfl <;> exact hv1
      have hin : bt_in (nI j) (w 12 0) := (bt_in_nI (by omega)).mpr hj
      rw [if_pos hin, if_pos hin, bt_clm (by omega), ← hv] at h
      have hmI := bt_mI_live (M' := M') (w' := bt_w1 w f j v) hI (bt_mW_st a1 (by omega) (by omega) hbd (fun x hx => by rw [e, bt_up_n hx]) (fun i hi => by rw [e, bt_up_s, pk_un (by omega)]) (by rw [if_neg (by omega), e, bt_up_s, Nat.zero_add, pk_us])) ⟨by rw [bt_w1_n (by omega)], by rw [bt_w1_n (by omega)]⟩ (fun x _ hx => by rw [e, bt_up_n hx]) (fun i hi _ => by rw [e, bt_up_s, pk_un (by omega)])
      have hmf : bt_mfx M M' := fun x hx => by rw [e, bt_up_n (by omega)]
      have n01 : ¬ (1 : Int32) = 0 := by decide
      have n02 : ¬ (2 : Int32) = 0 := by decide
      have n12 : ¬ (2 : Int32) = 1 := by decide
      rcases hx with ⟨rfl, rfl⟩ | ⟨rfl, rfl⟩ | ⟨rfl, rfl⟩
      · rw [if_pos rfl, if_pos rfl] at h
        have key := h M' hmf hmI
        rw [← r5 j hj] at key
        exact key
      · rw [if_neg n01, if_pos rfl, if_neg n01, if_pos rfl] at h
        have key := h M' hmf hmI
        rw [← r6 j hj] at key
        exact key
      · rw [if_neg n02, if_neg n12, if_pos rfl, if_neg n02, if_neg n12, if_pos rfl] at h
        have key := h M' hmf hmI
        rw [← r4 j hj] at key
        exact key
    have fin : ∀ at_ f, ((x = 0 ∧ f = 5) ∨ (x = 1 ∧ f = 6) ∨ (¬ x = 0 ∧ ¬ x = 1 ∧ f = 4)) → at_ = nI f → P 19 [some (.ref 67), some (.int i), some (.int x), some (.int b), none] [.int at_] M N := by
      intro at_ f hx hat
      refine bt_go0 rfl hP 60 ?_
      refine ⟨w 12 0, rfl, g1, f1, ⟨fun y => ?_, fun y => ⟨fun y2 => ?_, fun y2 => ?_⟩⟩⟩
      · rw [bt_bi_0] at y
        exact ⟨fun _ => ⟨rfl, fun _ => hbad (Or.inl y), fun c => absurd rfl c⟩, fun _ => ⟨rfl, fun _ => hbad (Or.inl y), fun c => absurd rfl c⟩⟩
      · rw [bt_bi_0, bt_inl_c (k := 2) (show (2 : Int64) = lN 2 from rfl) (by omega)] at y2
        exact ⟨fun _ => ⟨rfl, fun _ => hbad (Or.inr y2), fun c => absurd rfl c⟩, fun _ => ⟨rfl, fun _ => hbad (Or.inr y2), fun c => absurd rfl c⟩⟩
      · rw [bt_bi_n0] at y
        rw [bt_bi_n0, bt_inl_c (k := 2) (show (2 : Int64) = lN 2 from rfl) (by omega)] at y2
        obtain ⟨j, hj, ej⟩ := bt_in_e y
        have hx2 : (x = 0 ∧ f = 5) ∨ (x = 1 ∧ f = 6) ∨ (x = 2 ∧ f = 4) := by
          rcases hx with c | c | ⟨c1, c2, c3⟩
          · exact Or.inl c
          · exact Or.inr (Or.inl c)
          · obtain ⟨a, ha, rfl⟩ := bt_in_e y2
            rcases (show a = 0 ∨ a = 1 ∨ a = 2 by omega) with rfl | rfl | rfl
            · exact absurd rfl c1
            · exact absurd rfl c2
            · exact Or.inr (Or.inr ⟨rfl, c3⟩)
        refine ⟨fun c => ⟨rfl, fun c2 => absurd c2 (by decide), fun _ => hgood j f at_ 0 ej hj (by omega) (by rw [if_pos c]) hx2 hat⟩, fun c => ⟨rfl, fun c2 => absurd c2 (by decide), fun _ => hgood j f at_ 1 ej hj (by omega) (by rw [if_neg c]) hx2 hat⟩⟩
    refine bt_go rfl hP 60 [19] P (fun _ _ _ _ _ h => h) ?_
    refine ⟨fun c => ⟨fun c2 => fin _ 4 (Or.inr (Or.inr ⟨c, c2, rfl⟩)) rfl, fun c2 => fin _ 6 (Or.inr (Or.inl ⟨c2, rfl⟩)) rfl⟩, fun c => fin _ 5 (Or.inl ⟨c, rfl⟩) rfl⟩
  · cases hf

def f_teach : bt_fn := fun t S => match t, S with
  | [.int k, .int kd, .int nd], (w, im, u, z, q) => some (.int (if (bt_in k (w 12 1) ∧ bt_in kd 5 ∧ bt_nd nd) then nI (w 7 k.toNatClampNeg) else -1), (if (bt_in k (w 12 1) ∧ bt_in kd 5 ∧ bt_nd nd) then bt_w1 (bt_w1 w 8 k.toNatClampNeg nd.toNatClampNeg) 7 k.toNatClampNeg kd.toNatClampNeg else w, im, u, z, q))
  | _, _ => none

def bt_CX5_teach : bt_C := [(139, 1, 2, sX5_isCar), (57, 0, 3, sX5_within), (160, 0, 3, sX5_exchange)]
def sX5_teach : bt_Sp := bt_spC f_teach
set_option maxRecDepth 100000 in
theorem mX5_teach : bt_MT bt_TX5_teach bt_FX5 bt_CX5_teach 1 4 sX5_teach := by
  intro as M N Rt h P hP
  obtain ⟨t, S, r, S', rfl, hI, hf, h⟩ := bt_spC_e h
  obtain ⟨w, im, u, z, q⟩ := S
  unfold f_teach at hf
  split at hf
  · next k kd nd _ _ _ _ _ e =>
    cases e
    obtain ⟨rfl, rfl⟩ := bt_some hf
    obtain ⟨a1, a2, a3, a4, a5, a6, a7, a8, a9, a10, a11, a12⟩ := id hI
    obtain ⟨b0, b1, b2, b3, b4, b5, b6, b7, b8, b9, b10⟩ := id a2
    obtain ⟨hw, h8, h9, h10, h11, h12, h13, h14, h15, h16, h17, r1, r2, r3, r4, r5, r6, r7, r8⟩ := id a1
    obtain ⟨f1, f2, f3, f4, f5, f6, f7, f8, f9, f10, f11, f12, f13, f14, f15, f16, f17, f18⟩ := id hw
    have hbad : ¬ (bt_in k (w 12 1) ∧ bt_in kd 5 ∧ bt_nd nd) → Rt (some (.int (-1))) M N := fun y => by
      rw [if_neg y, if_neg y] at h
      exact h M N (fun _ _ => rfl) hI
    refine bt_go0 rfl hP 60 ?_
    refine ⟨w 12 1, rfl, h12, f2, ⟨fun y => ?_, fun y => ⟨fun y2 => ?_, fun y2 => ⟨fun y3 => ?_, fun y3 => ?_⟩⟩⟩⟩
    · rw [bt_bi_0] at y
      exact hbad (fun c => y c.1)
    · rw [bt_bi_0, bt_in_c (k := 4) (show (4 : Int32) = nI 4 from rfl) (by omega)] at y2
      exact hbad (fun c => y2 c.2.1)
    · rw [bt_bi_n0] at y
      rw [bt_bi_n0, bt_in_c (k := 4) (show (4 : Int32) = nI 4 from rfl) (by omega)] at y2
      rw [bt_bi_n0, bt_nd_c] at y3
      rw [if_pos ⟨y, y2, y3⟩, if_pos ⟨y, y2, y3⟩] at h
      obtain ⟨j, hj, rfl⟩ := bt_in_e y
      obtain ⟨a, ha, rfl⟩ := bt_in_e y2
      obtain ⟨d, hd, rfl⟩ := bt_nd_e y3
      rw [bt_clm (by omega), bt_clm (by omega), bt_clm (by omega)] at h
      refine ⟨_, rfl, j, rfl, by omega, fun M1 e1 => ?_⟩
      refine ⟨_, j, rfl, rfl, by omega, fun M' e => ?_⟩
      have w1 := bt_cW_row (f := 8) (r := 6) (k := j) (v := d) (M' := M1) a1 hd (by omega) (fun x hx => by rw [e1, bt_up_n (by omega)]) (fun i => by rw [e1, bt_up_s]; rfl)
      have w2 := bt_cW_row (f := 7) (r := 5) (k := j) (v := a) (M' := M') w1 (show a ≤ 4 by omega) (by omega) (fun x hx => by rw [e, bt_up_n (by omega)]) (fun i => by rw [e, bt_up_s]; rfl)
      have key := h M' N (fun x hx => by rw [e, bt_up_n (by omega), e1, bt_up_n (by omega)]) (bt_cI_live hI w2 ⟨rfl, rfl⟩ (fun x hx => by rw [e, bt_up_n (by omega), e1, bt_up_n (by omega)]))
      have e5 := r5 j hj
      rw [← e5] at key
      rw [e1, bt_up_n (by omega)]
      exact key
    · rw [bt_bi_0, bt_nd_c] at y3
      exact hbad (fun c => y3 c.2.2)
  · cases hf

def bt_CX6_teach : bt_C := [(153, 1, 2, sX6_isCar), (46, 0, 3, sX6_in), (167, 1, 4, sX6_sets)]
def sX6_teach : bt_Sp := bt_spM f_teach
set_option maxRecDepth 100000 in
theorem mX6_teach : bt_MT bt_TX6_teach bt_FX6 bt_CX6_teach 1 4 sX6_teach := by
  intro as M N Rt h P hP
  obtain ⟨t, S, r, S', rfl, hI, hf, h⟩ := bt_spM_e h
  obtain ⟨w, im, u, z, q⟩ := S
  unfold f_teach at hf
  split at hf
  · next k kd nd _ _ _ _ _ e =>
    cases e
    obtain ⟨rfl, rfl⟩ := bt_some hf
    obtain ⟨a1, a2, a3, a4, a5, a6, a7, a8, a9, a10, a11, a12, a13, a14, a15⟩ := id hI
    obtain ⟨b0, b1, b2, b3, b4, b5, b6, b7, b8, b9, b10⟩ := id a2
    obtain ⟨hw, g1, g2, g3, g4, g5, g6, r0, r1, r2, r3, r4, r5, r6, c7, c8, c9, c10, c11⟩ := id a1
    obtain ⟨f1, f2, f3, f4, f5, f6, f7, f8, f9, f10, f11, f12, f13, f14, f15, f16, f17, f18⟩ := id hw
    simp only [Nat.zero_add] at g3 g4 g5 g6 r0 r1 r2 r3 r4 r5 r6 c7 c8 c9 c10
    have hbad : ¬ (bt_in k (w 12 1) ∧ bt_in kd 5 ∧ bt_nd nd) → Rt (some (.int (-1))) M N := fun y => by
      rw [if_neg y, if_neg y] at h
      exact h M (fun _ _ => rfl) hI
    refine bt_go0 rfl hP 60 ?_
    refine ⟨w 12 1, rfl, g2, f2, ⟨fun y => ?_, fun y => ⟨fun y2 => ?_, fun y2 => ⟨fun y3 => ?_, fun y3 => ?_⟩⟩⟩⟩
    · rw [bt_bi_0] at y
      exact hbad (fun c => y c.1)
    · rw [bt_bi_0, bt_inl_c (k := 4) (show (4 : Int64) = lN 4 from rfl) (by omega)] at y2
      exact hbad (fun c => y2 c.2.1)
    · rw [bt_bi_n0] at y
      rw [bt_bi_n0, bt_inl_c (k := 4) (show (4 : Int64) = lN 4 from rfl) (by omega)] at y2
      rw [bt_bi_n0, bt_nd_l] at y3
      rw [if_pos ⟨y, y2, y3⟩, if_pos ⟨y, y2, y3⟩] at h
      obtain ⟨j, hj, rfl⟩ := bt_in_e y
      obtain ⟨a, ha, rfl⟩ := bt_in_e y2
      obtain ⟨d, hd, rfl⟩ := bt_nd_e y3
      rw [bt_clm (by omega), bt_clm (by omega), bt_clm (by omega)] at h
      refine ⟨_, rfl, 58 + 5 * j + 1, by simp only [bt_lit, pk_mul, nI_add], by omega, fun M1 e1 => ?_⟩
      refine ⟨rfl, fun c => absurd c (by decide), fun _ => ⟨58 + 5 * j, by simp only [bt_lit, pk_mul, nI_add], by omega, fun M' e => ?_⟩⟩
      have w1 := bt_mW_car (f := 8) (k := j) (v := d) (M' := M1) a1 (by omega) (by omega) (by omega) hd (fun x hx => by rw [e1, bt_up_n hx]) (fun i hi => by rw [e1, bt_up_s, pk_un (by omega)]) (by rw [e1, bt_up_s, Nat.zero_add, pk_us])
      have w2 := bt_mW_car (f := 7) (k := j) (v := a) (M' := M') w1 (by omega) (by omega) (by omega) (show a ≤ 4 by omega) (fun x hx => by rw [e, bt_up_n hx]) (fun i hi => by rw [e, bt_up_s, pk_un (by omega)]) (by rw [e, bt_up_s, Nat.zero_add]; exact pk_us)
      have key := h M' (fun x hx => by rw [e, bt_up_n (by omega), e1, bt_up_n (by omega)]) (bt_mI_live hI w2 ⟨rfl, rfl⟩ (fun x _ hx => by rw [e, bt_up_n hx, e1, bt_up_n hx]) (fun i hi _ => by rw [e, bt_up_s, pk_un (by omega), e1, bt_up_s, pk_un (by omega)]))
      rw [← c7 j hj] at key
      rw [e1, bt_up_s, pk_un (by omega)]
      rw [e1] at e
      exact key
    · rw [bt_bi_0, bt_nd_l] at y3
      exact hbad (fun c => y3 c.2.2)
  · cases hf
end
section
/-! CALLS, BOTH SIDES: the tape, arrivals, stretches, counts -/

def f_feed : bt_fn := fun t S => match t, S with
  | [.int c], (w, im, u, z, q) => some (.int (if bt_in c 128 then (if u 0 = 160 then -3 else nI (u 0 + 1)) else -1), (w, im, if (bt_in c 128 ∧ ¬ u 0 = 160) then va_up u 0 (u 0 + 1) else u, if (bt_in c 128 ∧ ¬ u 0 = 160) then va_up z 0 (va_up (z 0) (u 0) c.toNatClampNeg) else z, q))
  | _, _ => none

def bt_CX5_feed : bt_C := [(57, 0, 3, sX5_within)]
def sX5_feed : bt_Sp := bt_spC f_feed
set_option maxRecDepth 100000 in
theorem mX5_feed : bt_MT bt_TX5_feed bt_FX5 bt_CX5_feed 1 2 sX5_feed := by
  intro as M N Rt h P hP
  obtain ⟨t, S, r, S', rfl, hI, hf, h⟩ := bt_spC_e h
  obtain ⟨w, im, u, z, q⟩ := S
  unfold f_feed at hf
  split at hf
  · next c _ _ _ _ _ e =>
    cases e
    obtain ⟨rfl, rfl⟩ := bt_some hf
    obtain ⟨a1, a2, a3, a4, a5, a6, a7, a8, a9, a10, a11, a12⟩ := id hI
    obtain ⟨b0, b1, b2, b3, b4, b5, b6, b7, b8, b9, b10⟩ := id a2
    obtain ⟨hw, h8, h9, h10, h11, h12, h13, h14, h15, h16, h17, r1, r2, r3, r4, r5, r6, r7, r8⟩ := id a1
    obtain ⟨f1, f2, f3, f4, f5, f6, f7, f8, f9, f10, f11, f12, f13, f14, f15, f16, f17, f18⟩ := id hw
    refine bt_go0 rfl hP 60 ?_
    refine ⟨fun y => ?_, fun y => ?_⟩
    · rw [bt_bi_n0, bt_in_c (k := 127) (show (127 : Int32) = nI 127 from rfl) (by omega)] at y
      rw [if_pos y] at h
      refine ⟨fun y2 => ?_, fun y2 => ?_⟩
      · rw [a3, bt_lit, nI_ltI (by omega) (by omega)] at y2
        have y3 : ¬ u 0 = 160 := by omega
        rw [if_neg y3, if_pos ⟨y, y3⟩, if_pos ⟨y, y3⟩] at h
        obtain ⟨j, hj, rfl⟩ := bt_in_e y
        rw [bt_clm (by omega)] at h
        refine ⟨_, rfl, u 0, a3, by omega, fun M1 e1 => ?_⟩
        rw [bt_by j hj, bt_by j hj] at e1
        intro M2 e2
        have q8 : M2 0 8 = nI (u 0 + 1) := by rw [e2, bt_up_s, pk_us, e1, bt_up_n (by omega), a3, nI_1]
        have hs : bt_sW w im (va_up u 0 (u 0 + 1)) (va_up z 0 (va_up (z 0) (u 0) j)) := by
          refine ⟨by rw [bt_up_s]; omega, ?_, by rw [bt_un 1 (by omega)]; exact b2, by rw [bt_un 2 (by omega)]; exact b3, by rw [bt_un 3 (by omega)]; exact b4, by rw [bt_un 4 (by omega)]; exact b5, by rw [bt_un 5 (by omega)]; exact b6, ?_, ?_, by rw [bt_un 3 (by omega)]; exact b9, by rw [bt_un 4 (by omega)]; exact b10⟩
          · intro k
            rw [bt_up_s]
            by_cases hk : k = u 0
            · rw [hk, bt_up_s]; exact hj
            · rw [bt_up_n hk]; exact b1 k
          · intro k hk
            rw [bt_un (6 + k) (by omega), bt_un (10 + k) (by omega)]; exact b7 k hk
          · rw [bt_un 5 (by omega), bt_up_n (by omega), bt_up_n (by omega)]; exact b8

        have hI2 : bt_cI M2 (w, im, va_up u 0 (u 0 + 1), va_up z 0 (va_up (z 0) (u 0) j), q) := by
          refine bt_cI_uz hI hs ⟨bt_un 1 (by omega), bt_un 3 (by omega), bt_un 4 (by omega), bt_un 2 (by omega), fun k hk => ⟨bt_un _ (by omega), bt_un _ (by omega)⟩⟩ (fun x hx => by rw [e2, bt_up_n (by omega), e1, bt_up_n (by omega)]) (fun f hf => by rw [e2, bt_up_s, pk_un hf, e1, bt_up_n (by omega)]) (by rw [bt_up_s]; exact q8) ?_ ?_ ?_
          · intro k hk
            rw [bt_up_s] at hk
            rw [e2, bt_up_n (by omega), e1, bt_up_s, bt_up_s]
            by_cases hk2 : k = u 0
            · rw [hk2, pk_us, bt_up_s]
            · rw [pk_un hk2, bt_up_n hk2]; exact a4 k (by omega)
          · rw [e2, bt_up_n (by omega), e1, bt_up_n (by omega), bt_un 5 (by omega)]; exact a11
          · rw [bt_un 5 (by omega), bt_up_n (by omega), bt_up_n (by omega), e2, bt_up_n (by omega), bt_up_n (by omega), e1, bt_up_n (by omega), bt_up_n (by omega)]; exact a12
        have key := h M2 N (fun x hx => by rw [e2, bt_up_n (by omega), e1, bt_up_n (by omega)]) hI2
        rw [← q8] at key
        exact key
      · rw [a3, bt_lit, nI_ltI (by omega) (by omega)] at y2
        have y3 : u 0 = 160 := by omega
        rw [if_pos y3, if_neg (fun c => c.2 y3), if_neg (fun c => c.2 y3)] at h
        exact h M N (fun _ _ => rfl) hI
    · rw [bt_bi_0, bt_in_c (k := 127) (show (127 : Int32) = nI 127 from rfl) (by omega)] at y
      rw [if_neg y, if_neg (fun c => y c.1), if_neg (fun c => y c.1)] at h
      exact h M N (fun _ _ => rfl) hI
  · cases hf

def bt_CX6_feed : bt_C := [(46, 0, 3, sX6_in)]
def sX6_feed : bt_Sp := bt_spM f_feed
set_option maxRecDepth 100000 in
theorem mX6_feed : bt_MT bt_TX6_feed bt_FX6 bt_CX6_feed 1 2 sX6_feed := by
  intro as M N Rt h P hP
  obtain ⟨t, S, r, S', rfl, hI, hf, h⟩ := bt_spM_e h
  obtain ⟨w, im, u, z, q⟩ := S
  unfold f_feed at hf
  split at hf
  · next c _ _ _ _ _ e =>
    cases e
    obtain ⟨rfl, rfl⟩ := bt_some hf
    obtain ⟨a1, a2, a3, a4, a5, a6, a7, a8, a9, a10, a11, a12, a13, a14, a15⟩ := id hI
    obtain ⟨b0, b1, b2, b3, b4, b5, b6, b7, b8, b9, b10⟩ := id a2
    obtain ⟨hw, g1, g2, g3, g4, g5, g6, r0, r1, r2, r3, r4, r5, r6, c7, c8, c9, c10, c11⟩ := id a1
    obtain ⟨f1, f2, f3, f4, f5, f6, f7, f8, f9, f10, f11, f12, f13, f14, f15, f16, f17, f18⟩ := id hw
    simp only [Nat.zero_add] at g3 g4 g5 g6 r0 r1 r2 r3 r4 r5 r6 c7 c8 c9 c10
    refine bt_go0 rfl hP 60 ?_
    refine ⟨fun y => ?_, fun y => ?_⟩
    · rw [bt_bi_n0, bt_inl_c (k := 127) (show (127 : Int64) = lN 127 from rfl) (by omega)] at y
      rw [if_pos y] at h
      refine ⟨fun y2 => ?_, fun y2 => ?_⟩
      · have y3 : ¬ u 0 = 160 := fun c => y2 (by rw [a3, c]; rfl)
        rw [if_neg y3, if_pos ⟨y, y3⟩, if_pos ⟨y, y3⟩] at h
        obtain ⟨j, hj, rfl⟩ := bt_in_e y
        rw [bt_clm (by omega)] at h
        refine ⟨_, rfl, u 0, a3, by omega, fun M1 e1 => ?_⟩
        intro M2 e2
        have q8 : M2 67 10 = nI (u 0 + 1) := by rw [e2, bt_up_s, pk_us, e1, bt_up_n (by omega), a3, nI_1]
        have hs : bt_sW w im (va_up u 0 (u 0 + 1)) (va_up z 0 (va_up (z 0) (u 0) j)) := by
          refine ⟨by rw [bt_up_s]; omega, ?_, by rw [bt_un 1 (by omega)]; exact b2, by rw [bt_un 2 (by omega)]; exact b3, by rw [bt_un 3 (by omega)]; exact b4, by rw [bt_un 4 (by omega)]; exact b5, by rw [bt_un 5 (by omega)]; exact b6, ?_, ?_, by rw [bt_un 3 (by omega)]; exact b9, by rw [bt_un 4 (by omega)]; exact b10⟩
          · intro k
            rw [bt_up_s]
            by_cases hk : k = u 0
            · rw [hk, bt_up_s]; exact hj
            · rw [bt_up_n hk]; exact b1 k
          · intro k hk
            rw [bt_un (6 + k) (by omega), bt_un (10 + k) (by omega)]; exact b7 k hk
          · rw [bt_un 5 (by omega), bt_up_n (by omega), bt_up_n (by omega)]; exact b8

        have hI2 : bt_mI M2 (w, im, va_up u 0 (u 0 + 1), va_up z 0 (va_up (z 0) (u 0) j), q) := by
          refine bt_mI_uz hI hs ⟨bt_un 1 (by omega), bt_un 3 (by omega), bt_un 4 (by omega), bt_un 2 (by omega), fun k hk => ⟨bt_un _ (by omega), bt_un _ (by omega)⟩⟩ (fun x hx _ _ => by rw [e2, bt_up_n (by omega), e1, bt_up_n (by omega)]) (fun f hf _ => by rw [e2, bt_up_s, pk_un hf, e1, bt_up_n (by omega)]) (by rw [bt_up_s]; exact q8) ?_ ?_ ?_
          · intro k hk
            rw [bt_up_s] at hk
            rw [e2, bt_up_n (by omega), e1, bt_up_s, bt_up_s]
            by_cases hk2 : k = u 0
            · rw [hk2, pk_us, bt_up_s]
            · rw [pk_un hk2, bt_up_n hk2]; exact a4 k (by omega)
          · rw [e2, bt_up_s, pk_un (by omega), e1, bt_up_n (by omega), bt_un 5 (by omega)]; exact a12
          · rw [bt_un 5 (by omega), bt_up_n (by omega), bt_up_n (by omega), e2, bt_up_n (by omega), e1, bt_up_n (by omega)]; exact a13
        have key := h M2 (fun x hx => by rw [e2, bt_up_n (by omega), e1, bt_up_n (by omega)]) hI2
        rw [← q8] at key
        exact key
      · have y3 : u 0 = 160 := by
          rw [a3] at y2
          exact (nI_eq (b := 160) (by omega) (by omega)).mp y2
        rw [if_pos y3, if_neg (fun c => c.2 y3), if_neg (fun c => c.2 y3)] at h
        exact h M (fun _ _ => rfl) hI
    · rw [bt_bi_0, bt_inl_c (k := 127) (show (127 : Int64) = lN 127 from rfl) (by omega)] at y
      rw [if_neg y, if_neg (fun c => y c.1), if_neg (fun c => y c.1)] at h
      exact h M (fun _ _ => rfl) hI
  · cases hf

def f_end : bt_fn := fun t S => match t, S with
  | [.int n], (w, im, u, z, q) => some (.int (if bt_in n (u 0 + 1) then nI (u 0) else -1), (w, im, if bt_in n (u 0 + 1) then va_up u 0 n.toNatClampNeg else u, z, q))
  | _, _ => none

def bt_CX5_end : bt_C := [(57, 0, 3, sX5_within)]
def sX5_end : bt_Sp := bt_spC f_end
set_option maxRecDepth 100000 in
theorem mX5_end : bt_MT bt_TX5_end bt_FX5 bt_CX5_end 1 3 sX5_end := by
  intro as M N Rt h P hP
  obtain ⟨t, S, r, S', rfl, hI, hf, h⟩ := bt_spC_e h
  obtain ⟨w, im, u, z, q⟩ := S
  unfold f_end at hf
  split at hf
  · next n _ _ _ _ _ e =>
    cases e
    obtain ⟨rfl, rfl⟩ := bt_some hf
    obtain ⟨a1, a2, a3, a4, a5, a6, a7, a8, a9, a10, a11, a12⟩ := id hI
    obtain ⟨b0, b1, b2, b3, b4, b5, b6, b7, b8, b9, b10⟩ := id a2
    obtain ⟨hw, h8, h9, h10, h11, h12, h13, h14, h15, h16, h17, r1, r2, r3, r4, r5, r6, r7, r8⟩ := id a1
    obtain ⟨f1, f2, f3, f4, f5, f6, f7, f8, f9, f10, f11, f12, f13, f14, f15, f16, f17, f18⟩ := id hw
    refine bt_go0 rfl hP 60 ?_
    refine ⟨fun y => ?_, fun y => ?_⟩
    · rw [bt_bi_n0, bt_in_c a3 (by omega)] at y
      rw [if_pos y, if_pos y] at h
      obtain ⟨j, hj, rfl⟩ := bt_in_e y
      rw [bt_clm (by omega)] at h
      intro M' e
      have hs : bt_sW w im (va_up u 0 j) z := by
        refine ⟨by rw [bt_up_s]; omega, b1, by rw [bt_un 1 (by omega)]; exact b2, by rw [bt_un 2 (by omega)]; exact b3, by rw [bt_un 3 (by omega)]; exact b4, by rw [bt_un 4 (by omega)]; exact b5, by rw [bt_un 5 (by omega)]; exact b6, fun k hk => by rw [bt_un (6 + k) (by omega), bt_un (10 + k) (by omega)]; exact b7 k hk, by rw [bt_un 5 (by omega)]; exact b8, by rw [bt_un 3 (by omega)]; exact b9, by rw [bt_un 4 (by omega)]; exact b10⟩

      have hI2 : bt_cI M' (w, im, va_up u 0 j, z, q) := bt_cI_uz hI hs ⟨bt_un 1 (by omega), bt_un 3 (by omega), bt_un 4 (by omega), bt_un 2 (by omega), fun k hk => ⟨bt_un _ (by omega), bt_un _ (by omega)⟩⟩ (fun x hx => by rw [e, bt_up_n (by omega)]) (fun f hf => by rw [e, bt_up_s, pk_un hf]) (by rw [bt_up_s, e, bt_up_s, pk_us]) (fun k hk => by rw [bt_up_s] at hk; rw [e, bt_up_n (by omega)]; exact a4 k (by omega)) (by rw [e, bt_up_n (by omega), bt_un 5 (by omega)]; exact a11) (by rw [bt_un 5 (by omega), e, bt_up_n (by omega), bt_up_n (by omega)]; exact a12)
      have key := h M' N (fun x hx => by rw [e, bt_up_n (by omega)]) hI2
      rw [← a3] at key
      exact key
    · rw [bt_bi_0, bt_in_c a3 (by omega)] at y
      rw [if_neg y, if_neg y] at h
      exact h M N (fun _ _ => rfl) hI
  · cases hf

theorem bt_inl_n {x : Int32} {n : Nat} (h : n < 2 ^ 31) : ((0 : Int64) ≤ x.toInt64 ∧ x.toInt64 ≤ (nI n).toInt64) ↔ bt_in x (n + 1) := by
  rw [bt_l0, bt_l_le, Int32.le_iff_toInt_le, nI_toInt h]
  omega

def bt_CX6_end : bt_C := [(46, 0, 3, sX6_in)]
def sX6_end : bt_Sp := bt_spM f_end
set_option maxRecDepth 100000 in
theorem mX6_end : bt_MT bt_TX6_end bt_FX6 bt_CX6_end 1 3 sX6_end := by
  intro as M N Rt h P hP
  obtain ⟨t, S, r, S', rfl, hI, hf, h⟩ := bt_spM_e h
  obtain ⟨w, im, u, z, q⟩ := S
  unfold f_end at hf
  split at hf
  · next n _ _ _ _ _ e =>
    cases e
    obtain ⟨rfl, rfl⟩ := bt_some hf
    obtain ⟨a1, a2, a3, a4, a5, a6, a7, a8, a9, a10, a11, a12, a13, a14, a15⟩ := id hI
    obtain ⟨b0, b1, b2, b3, b4, b5, b6, b7, b8, b9, b10⟩ := id a2
    obtain ⟨hw, g1, g2, g3, g4, g5, g6, r0, r1, r2, r3, r4, r5, r6, c7, c8, c9, c10, c11⟩ := id a1
    obtain ⟨f1, f2, f3, f4, f5, f6, f7, f8, f9, f10, f11, f12, f13, f14, f15, f16, f17, f18⟩ := id hw
    simp only [Nat.zero_add] at g3 g4 g5 g6 r0 r1 r2 r3 r4 r5 r6 c7 c8 c9 c10
    refine bt_go0 rfl hP 60 ?_
    refine ⟨fun y => ?_, fun y => ?_⟩
    · rw [bt_bi_n0, a3, bt_inl_n (by omega)] at y
      rw [if_pos y, if_pos y] at h
      obtain ⟨j, hj, rfl⟩ := bt_in_e y
      rw [bt_clm (by omega)] at h
      intro M' e
      have hs : bt_sW w im (va_up u 0 j) z := by
        refine ⟨by rw [bt_up_s]; omega, b1, by rw [bt_un 1 (by omega)]; exact b2, by rw [bt_un 2 (by omega)]; exact b3, by rw [bt_un 3 (by omega)]; exact b4, by rw [bt_un 4 (by omega)]; exact b5, by rw [bt_un 5 (by omega)]; exact b6, fun k hk => by rw [bt_un (6 + k) (by omega), bt_un (10 + k) (by omega)]; exact b7 k hk, by rw [bt_un 5 (by omega)]; exact b8, by rw [bt_un 3 (by omega)]; exact b9, by rw [bt_un 4 (by omega)]; exact b10⟩

      have hI2 : bt_mI M' (w, im, va_up u 0 j, z, q) := bt_mI_uz hI hs ⟨bt_un 1 (by omega), bt_un 3 (by omega), bt_un 4 (by omega), bt_un 2 (by omega), fun k hk => ⟨bt_un _ (by omega), bt_un _ (by omega)⟩⟩ (fun x hx _ _ => by rw [e, bt_up_n (by omega)]) (fun f hf1 hf2 => by rw [e, bt_up_s, pk_un (by omega)]) (by rw [bt_up_s, e, bt_up_s, pk_us]) (fun k hk => by rw [bt_up_s] at hk; rw [e, bt_up_n (by omega)]; exact a4 k (by omega)) (by rw [e, bt_up_s, pk_un (by omega), bt_un 5 (by omega)]; exact a12) (by rw [bt_un 5 (by omega), e, bt_up_n (by omega)]; exact a13)
      have key := h M' (fun x hx => by rw [e, bt_up_n (by omega)]) hI2
      rw [← a3] at key
      exact key
    · rw [bt_bi_0, a3, bt_inl_n (by omega)] at y
      rw [if_neg y, if_neg y] at h
      exact h M (fun _ _ => rfl) hI
  · cases hf

def f_forget : bt_fn := fun t S => match t, S with
  | [.int n], (w, im, u, z, q) => some (.int (if bt_in n (u 5 + 1) then nI (u 5) else -1), (w, im, if bt_in n (u 5 + 1) then va_up u 5 n.toNatClampNeg else u, z, q))
  | _, _ => none

def bt_CX5_forget : bt_C := [(57, 0, 3, sX5_within)]
def sX5_forget : bt_Sp := bt_spC f_forget
set_option maxRecDepth 100000 in
theorem mX5_forget : bt_MT bt_TX5_forget bt_FX5 bt_CX5_forget 1 3 sX5_forget := by
  intro as M N Rt h P hP
  obtain ⟨t, S, r, S', rfl, hI, hf, h⟩ := bt_spC_e h
  obtain ⟨w, im, u, z, q⟩ := S
  unfold f_forget at hf
  split at hf
  · next n _ _ _ _ _ e =>
    cases e
    obtain ⟨rfl, rfl⟩ := bt_some hf
    obtain ⟨a1, a2, a3, a4, a5, a6, a7, a8, a9, a10, a11, a12⟩ := id hI
    obtain ⟨b0, b1, b2, b3, b4, b5, b6, b7, b8, b9, b10⟩ := id a2
    obtain ⟨hw, h8, h9, h10, h11, h12, h13, h14, h15, h16, h17, r1, r2, r3, r4, r5, r6, r7, r8⟩ := id a1
    obtain ⟨f1, f2, f3, f4, f5, f6, f7, f8, f9, f10, f11, f12, f13, f14, f15, f16, f17, f18⟩ := id hw
    refine bt_go0 rfl hP 60 ?_
    refine ⟨fun y => ?_, fun y => ?_⟩
    · rw [bt_bi_n0, bt_in_c a11 (by omega)] at y
      rw [if_pos y, if_pos y] at h
      obtain ⟨j, hj, rfl⟩ := bt_in_e y
      rw [bt_clm (by omega)] at h
      intro M' e
      have hs : bt_sW w im (va_up u 5 j) z := by
        refine ⟨by rw [bt_un 0 (by omega)]; exact b0, b1, by rw [bt_un 1 (by omega)]; exact b2, by rw [bt_un 2 (by omega)]; exact b3, by rw [bt_un 3 (by omega)]; exact b4, by rw [bt_un 4 (by omega)]; exact b5, by rw [bt_up_s]; omega, fun k hk => by rw [bt_un (6 + k) (by omega), bt_un (10 + k) (by omega)]; exact b7 k hk, fun n hn => b8 n (by rw [bt_up_s] at hn; omega), by rw [bt_un 3 (by omega)]; exact b9, by rw [bt_un 4 (by omega)]; exact b10⟩

      have hI2 : bt_cI M' (w, im, va_up u 5 j, z, q) := bt_cI_uz hI hs ⟨bt_un 1 (by omega), bt_un 3 (by omega), bt_un 4 (by omega), bt_un 2 (by omega), fun k hk => ⟨bt_un _ (by omega), bt_un _ (by omega)⟩⟩ (fun x hx => by rw [e, bt_up_n (by omega)]) (fun f hf => by rw [e, bt_up_n (by omega)]) (by rw [bt_un 0 (by omega), e, bt_up_n (by omega)]; exact a3) (fun k hk => by rw [bt_un 0 (by omega)] at hk; rw [e, bt_up_n (by omega)]; exact a4 k hk) (by rw [bt_up_s, e, bt_up_s, pk_us]) (fun n hn => by rw [bt_up_s] at hn; rw [e, bt_up_n (by omega), bt_up_n (by omega)]; exact a12 n (by omega))
      have key := h M' N (fun x hx => by rw [e, bt_up_n (by omega)]) hI2
      rw [← a11] at key
      exact key
    · rw [bt_bi_0, bt_in_c a11 (by omega)] at y
      rw [if_neg y, if_neg y] at h
      exact h M N (fun _ _ => rfl) hI
  · cases hf

def bt_CX6_forget : bt_C := [(46, 0, 3, sX6_in)]
def sX6_forget : bt_Sp := bt_spM f_forget
set_option maxRecDepth 100000 in
theorem mX6_forget : bt_MT bt_TX6_forget bt_FX6 bt_CX6_forget 1 3 sX6_forget := by
  intro as M N Rt h P hP
  obtain ⟨t, S, r, S', rfl, hI, hf, h⟩ := bt_spM_e h
  obtain ⟨w, im, u, z, q⟩ := S
  unfold f_forget at hf
  split at hf
  · next n _ _ _ _ _ e =>
    cases e
    obtain ⟨rfl, rfl⟩ := bt_some hf
    obtain ⟨a1, a2, a3, a4, a5, a6, a7, a8, a9, a10, a11, a12, a13, a14, a15⟩ := id hI
    obtain ⟨b0, b1, b2, b3, b4, b5, b6, b7, b8, b9, b10⟩ := id a2
    obtain ⟨hw, g1, g2, g3, g4, g5, g6, r0, r1, r2, r3, r4, r5, r6, c7, c8, c9, c10, c11⟩ := id a1
    obtain ⟨f1, f2, f3, f4, f5, f6, f7, f8, f9, f10, f11, f12, f13, f14, f15, f16, f17, f18⟩ := id hw
    simp only [Nat.zero_add] at g3 g4 g5 g6 r0 r1 r2 r3 r4 r5 r6 c7 c8 c9 c10
    refine bt_go0 rfl hP 60 ?_
    refine ⟨fun y => ?_, fun y => ?_⟩
    · rw [bt_bi_n0, a12, bt_inl_n (by omega)] at y
      rw [if_pos y, if_pos y] at h
      obtain ⟨j, hj, rfl⟩ := bt_in_e y
      rw [bt_clm (by omega)] at h
      intro M' e
      have hs : bt_sW w im (va_up u 5 j) z := by
        refine ⟨by rw [bt_un 0 (by omega)]; exact b0, b1, by rw [bt_un 1 (by omega)]; exact b2, by rw [bt_un 2 (by omega)]; exact b3, by rw [bt_un 3 (by omega)]; exact b4, by rw [bt_un 4 (by omega)]; exact b5, by rw [bt_up_s]; omega, fun k hk => by rw [bt_un (6 + k) (by omega), bt_un (10 + k) (by omega)]; exact b7 k hk, fun n hn => b8 n (by rw [bt_up_s] at hn; omega), by rw [bt_un 3 (by omega)]; exact b9, by rw [bt_un 4 (by omega)]; exact b10⟩

      have hI2 : bt_mI M' (w, im, va_up u 5 j, z, q) := bt_mI_uz hI hs ⟨bt_un 1 (by omega), bt_un 3 (by omega), bt_un 4 (by omega), bt_un 2 (by omega), fun k hk => ⟨bt_un _ (by omega), bt_un _ (by omega)⟩⟩ (fun x hx _ _ => by rw [e, bt_up_n (by omega)]) (fun f hf1 hf2 => by rw [e, bt_up_s, pk_un (by omega)]) (by rw [bt_un 0 (by omega), e, bt_up_s, pk_un (by omega)]; exact a3) (fun k hk => by rw [bt_un 0 (by omega)] at hk; rw [e, bt_up_n (by omega)]; exact a4 k hk) (by rw [bt_up_s, e, bt_up_s, pk_us]) (fun n hn => by rw [bt_up_s] at hn; rw [e, bt_up_n (by omega)]; exact a13 n (by omega))
      have key := h M' (fun x hx => by rw [e, bt_up_n (by omega)]) hI2
      rw [← a12] at key
      exact key
    · rw [bt_bi_0, a12, bt_inl_n (by omega)] at y
      rw [if_neg y, if_neg y] at h
      exact h M (fun _ _ => rfl) hI
  · cases hf

def f_see : bt_fn := fun t S => match t, S with
  | [.int k, .int t], (w, im, u, z, q) => some (.int (if (bt_in k (w 12 1) ∧ bt_in t 1000) then (if u 5 = 6 then -3 else nI (u 5 + 1)) else -1), (w, im, if ((bt_in k (w 12 1) ∧ bt_in t 1000) ∧ ¬ u 5 = 6) then va_up u 5 (u 5 + 1) else u, if ((bt_in k (w 12 1) ∧ bt_in t 1000) ∧ ¬ u 5 = 6) then va_up (va_up z 1 (va_up (z 1) (u 5) k.toNatClampNeg)) 2 (va_up (z 2) (u 5) t.toNatClampNeg) else z, q))
  | _, _ => none

def sX0_add : bt_Sp := fun as M N K => match as with
  | [.ref c, .int k, .int t] => ∃ n, c = 49 ∧ M 49 5 = nI n ∧ n ≤ 6 ∧ (n = 6 → K (some (.int 0)) M N) ∧ (n < 6 → ∀ M', (∀ x : Nat, x ≠ 49 → x ≠ 50 → x ≠ 51 → M' x = M x) → M' 49 5 = nI (n + 1) → M' 50 = upd (M 50) n k → M' 51 = upd (M 51) n t → K (some (.int 1)) M' N)
  | _ => False
theorem mX0_add : bt_MT bt_TX0_add bt_FX0 [] 2 3 sX0_add := by
  intro as M N Rt h P hP
  unfold sX0_add at h
  split at h
  · obtain ⟨n, rfl, hn, hn6, h6, h⟩ := h
    refine bt_go0 rfl hP 40 ⟨fun y => ?_, fun y => ?_⟩
    · rw [hn, bt_lit, nI_ltI (by omega) (by omega)] at y
      refine ⟨_, rfl, n, hn, by omega, fun M1 e1 => ?_⟩
      have q1 : M1 49 5 = nI n := by rw [e1, bt_up_n (by omega)]; exact hn
      refine ⟨_, rfl, n, q1, by omega, fun M2 e2 => ?_⟩
      have q2 : M2 49 5 = nI n := by rw [e2, bt_up_n (by omega)]; exact q1
      intro M3 e3
      refine ⟨Or.inr rfl, h (by omega) M3 (fun x x1 x2 x3 => by rw [e3, bt_up_n x1, e2, bt_up_n x3, e1, bt_up_n x2]) ?_ ?_ ?_⟩
      · rw [e3, bt_up_s, pk_us, q2, nI_1]
      · rw [e3, bt_up_n (by omega), e2, bt_up_n (by omega), e1, bt_up_s]
      · rw [e3, bt_up_n (by omega), e2, bt_up_s, e1, bt_up_n (by omega)]
    · rw [hn, bt_lit, nI_ltI (by omega) (by omega)] at y
      exact ⟨Or.inl rfl, h6 (by omega)⟩
  · exact False.elim h

def bt_CX5_see : bt_C := [(139, 1, 2, sX5_isCar), (57, 0, 3, sX5_within), (233, 1, 3, sX0_add)]
def sX5_see : bt_Sp := bt_spC f_see
set_option maxRecDepth 100000 in
theorem mX5_see : bt_MT bt_TX5_see bt_FX5 bt_CX5_see 1 3 sX5_see := by
  intro as M N Rt h P hP
  obtain ⟨t, S, r, S', rfl, hI, hf, h⟩ := bt_spC_e h
  obtain ⟨w, im, u, z, q⟩ := S
  unfold f_see at hf
  split at hf
  · next k t _ _ _ _ _ e =>
    cases e
    obtain ⟨rfl, rfl⟩ := bt_some hf
    obtain ⟨a1, a2, a3, a4, a5, a6, a7, a8, a9, a10, a11, a12⟩ := id hI
    obtain ⟨b0, b1, b2, b3, b4, b5, b6, b7, b8, b9, b10⟩ := id a2
    obtain ⟨hw, h8, h9, h10, h11, h12, h13, h14, h15, h16, h17, r1, r2, r3, r4, r5, r6, r7, r8⟩ := id a1
    obtain ⟨f1, f2, f3, f4, f5, f6, f7, f8, f9, f10, f11, f12, f13, f14, f15, f16, f17, f18⟩ := id hw
    have hbad : ¬ (bt_in k (w 12 1) ∧ bt_in t 1000) → Rt (some (.int (-1))) M N := fun y => by
      have nok : ¬ ((bt_in k (w 12 1) ∧ bt_in t 1000) ∧ ¬ u 5 = 6) := fun c => y c.1
      rw [if_neg y, if_neg nok, if_neg nok] at h
      exact h M N (fun _ _ => rfl) hI
    refine bt_go0 rfl hP 60 ?_
    refine ⟨w 12 1, rfl, h12, f2, ⟨fun y => ?_, fun y => ⟨fun y2 => ?_, fun y2 => ?_⟩⟩⟩
    · rw [bt_bi_0] at y
      exact hbad (fun c => y c.1)
    · rw [bt_bi_n0] at y
      rw [bt_bi_n0, bt_in_c (k := 999) (show (999 : Int32) = nI 999 from rfl) (by omega)] at y2
      have ok : (bt_in k (w 12 1) ∧ bt_in t 1000) := ⟨y, y2⟩
      rw [if_pos ok] at h
      refine ⟨u 5, rfl, a11, b6, fun y3 => ?_, fun y3 M' e1 e2 e3 e4 => ?_⟩
      · have nok : ¬ ((bt_in k (w 12 1) ∧ bt_in t 1000) ∧ ¬ u 5 = 6) := fun c => c.2 y3
        rw [if_pos y3, if_neg nok, if_neg nok] at h
        exact ⟨fun _ => h M N (fun _ _ => rfl) hI, fun c => absurd rfl c⟩
      · have y4 : ¬ u 5 = 6 := by omega
        have ok2 : (bt_in k (w 12 1) ∧ bt_in t 1000) ∧ ¬ u 5 = 6 := ⟨ok, y4⟩
        rw [if_neg y4, if_pos ok2, if_pos ok2] at h
        obtain ⟨j, hj, rfl⟩ := bt_in_e y
        obtain ⟨a, ha, rfl⟩ := bt_in_e y2
        rw [bt_clm (by omega), bt_clm (by omega)] at h
        have hs : bt_sW w im (va_up u 5 (u 5 + 1)) (va_up (va_up z 1 (va_up (z 1) (u 5) j)) 2 (va_up (z 2) (u 5) a)) := by
          refine ⟨by rw [bt_un 0 (by omega)]; exact b0, by rw [bt_up_n (by omega), bt_up_n (by omega)]; exact b1, by rw [bt_un 1 (by omega)]; exact b2, by rw [bt_un 2 (by omega)]; exact b3, by rw [bt_un 3 (by omega)]; exact b4, by rw [bt_un 4 (by omega)]; exact b5, by rw [bt_up_s]; omega, fun k hk => by rw [bt_un (6 + k) (by omega), bt_un (10 + k) (by omega)]; exact b7 k hk, ?_, by rw [bt_un 3 (by omega)]; exact b9, by rw [bt_un 4 (by omega)]; exact b10⟩
          intro n hn
          rw [bt_up_s] at hn
          rw [bt_up_n (by omega), bt_up_s, bt_up_s]
          by_cases hn2 : n = u 5
          · rw [hn2, bt_up_s, bt_up_s]; exact ⟨hj, by omega⟩
          · rw [bt_up_n hn2, bt_up_n hn2]; exact b8 n (by omega)

        have hI2 : bt_cI M' (w, im, va_up u 5 (u 5 + 1), va_up (va_up z 1 (va_up (z 1) (u 5) j)) 2 (va_up (z 2) (u 5) a), q) := by
          refine bt_cI_uz hI hs ⟨bt_un 1 (by omega), bt_un 3 (by omega), bt_un 4 (by omega), bt_un 2 (by omega), fun k hk => ⟨bt_un _ (by omega), bt_un _ (by omega)⟩⟩ (fun x hx => e1 x (by omega) (by omega) (by omega)) (fun f hf => by rw [e1 0 (by omega) (by omega) (by omega)]) (by rw [bt_un 0 (by omega), e1 0 (by omega) (by omega) (by omega)]; exact a3) (by rw [bt_un 0 (by omega), bt_up_n (by omega), bt_up_n (by omega), e1 1 (by omega) (by omega) (by omega)]; exact a4) (by rw [bt_up_s]; exact e2) ?_
          intro n hn
          rw [bt_up_s] at hn
          rw [e3, e4, bt_up_n (by omega), bt_up_s, bt_up_s]
          by_cases hn2 : n = u 5
          · rw [hn2, pk_us, pk_us, bt_up_s, bt_up_s]; exact ⟨rfl, rfl⟩
          · rw [pk_un hn2, pk_un hn2, bt_up_n hn2, bt_up_n hn2]; exact a12 n (by omega)
        have key := h M' N (fun x hx => e1 x (by omega) (by omega) (by omega)) hI2
        rw [← e2] at key
        exact ⟨fun c => absurd c (by decide), fun _ => key⟩
    · rw [bt_bi_0, bt_in_c (k := 999) (show (999 : Int32) = nI 999 from rfl) (by omega)] at y2
      exact hbad (fun c => y2 c.2)
  · cases hf

def bt_CX6_see : bt_C := [(153, 1, 2, sX6_isCar), (46, 0, 3, sX6_in)]
def sX6_see : bt_Sp := bt_spM f_see
set_option maxRecDepth 100000 in
theorem mX6_see : bt_MT bt_TX6_see bt_FX6 bt_CX6_see 1 3 sX6_see := by
  intro as M N Rt h P hP
  obtain ⟨t, S, r, S', rfl, hI, hf, h⟩ := bt_spM_e h
  obtain ⟨w, im, u, z, q⟩ := S
  unfold f_see at hf
  split at hf
  · next k t _ _ _ _ _ e =>
    cases e
    obtain ⟨rfl, rfl⟩ := bt_some hf
    obtain ⟨a1, a2, a3, a4, a5, a6, a7, a8, a9, a10, a11, a12, a13, a14, a15⟩ := id hI
    obtain ⟨b0, b1, b2, b3, b4, b5, b6, b7, b8, b9, b10⟩ := id a2
    obtain ⟨hw, g1, g2, g3, g4, g5, g6, r0, r1, r2, r3, r4, r5, r6, c7, c8, c9, c10, c11⟩ := id a1
    obtain ⟨f1, f2, f3, f4, f5, f6, f7, f8, f9, f10, f11, f12, f13, f14, f15, f16, f17, f18⟩ := id hw
    simp only [Nat.zero_add] at g3 g4 g5 g6 r0 r1 r2 r3 r4 r5 r6 c7 c8 c9 c10
    have hbad : ¬ (bt_in k (w 12 1) ∧ bt_in t 1000) → Rt (some (.int (-1))) M N := fun y => by
      have nok : ¬ ((bt_in k (w 12 1) ∧ bt_in t 1000) ∧ ¬ u 5 = 6) := fun c => y c.1
      rw [if_neg y, if_neg nok, if_neg nok] at h
      exact h M (fun _ _ => rfl) hI
    refine bt_go0 rfl hP 60 ?_
    refine ⟨w 12 1, rfl, g2, f2, ⟨fun y => ?_, fun y => ⟨fun y2 => ?_, fun y2 => ?_⟩⟩⟩
    · rw [bt_bi_0] at y
      exact hbad (fun c => y c.1)
    · rw [bt_bi_n0] at y
      rw [bt_bi_n0, bt_inl_c (k := 999) (show (999 : Int64) = lN 999 from rfl) (by omega)] at y2
      have ok : (bt_in k (w 12 1) ∧ bt_in t 1000) := ⟨y, y2⟩
      rw [if_pos ok] at h
      refine ⟨fun y3 => ?_, fun y3 => ?_⟩
      · have y4 : ¬ u 5 = 6 := fun c => y3 (by rw [a12, c]; rfl)
        have ok2 : (bt_in k (w 12 1) ∧ bt_in t 1000) ∧ ¬ u 5 = 6 := ⟨ok, y4⟩
        rw [if_neg y4, if_pos ok2, if_pos ok2] at h
        obtain ⟨j, hj, rfl⟩ := bt_in_e y
        obtain ⟨a, ha, rfl⟩ := bt_in_e y2
        rw [bt_clm (by omega), bt_clm (by omega)] at h
        have hs : bt_sW w im (va_up u 5 (u 5 + 1)) (va_up (va_up z 1 (va_up (z 1) (u 5) j)) 2 (va_up (z 2) (u 5) a)) := by
          refine ⟨by rw [bt_un 0 (by omega)]; exact b0, by rw [bt_up_n (by omega), bt_up_n (by omega)]; exact b1, by rw [bt_un 1 (by omega)]; exact b2, by rw [bt_un 2 (by omega)]; exact b3, by rw [bt_un 3 (by omega)]; exact b4, by rw [bt_un 4 (by omega)]; exact b5, by rw [bt_up_s]; omega, fun k hk => by rw [bt_un (6 + k) (by omega), bt_un (10 + k) (by omega)]; exact b7 k hk, ?_, by rw [bt_un 3 (by omega)]; exact b9, by rw [bt_un 4 (by omega)]; exact b10⟩
          intro n hn
          rw [bt_up_s] at hn
          rw [bt_up_n (by omega), bt_up_s, bt_up_s]
          by_cases hn2 : n = u 5
          · rw [hn2, bt_up_s, bt_up_s]; exact ⟨hj, by omega⟩
          · rw [bt_up_n hn2, bt_up_n hn2]; exact b8 n (by omega)

        refine ⟨_, rfl, 2 * u 5, by rw [a12]; simp only [bt_lit, pk_mul], by omega, fun M1 e1 => ?_⟩
        have q1 : M1 67 21 = nI (u 5) := by rw [e1, bt_up_n (by omega)]; exact a12
        refine ⟨_, rfl, 2 * u 5 + 1, by rw [q1]; simp only [bt_lit, pk_mul, nI_add], by omega, fun M2 e2 => ?_⟩
        have q2 : M2 67 21 = nI (u 5) := by rw [e2, bt_up_n (by omega)]; exact q1
        intro M3 e3
        have q3 : M3 67 21 = nI (u 5 + 1) := by rw [e3, bt_up_s, pk_us, q2, nI_1]
        have hx3 : ∀ x : Nat, x ≠ 67 → x ≠ 74 → M3 x = M x := fun x x1 x2 => by rw [e3, bt_up_n x1, e2, bt_up_n x2, e1, bt_up_n x2]
        have hf3 : ∀ f, f ≠ 21 → M3 67 f = M 67 f := fun f hf => by rw [e3, bt_up_s, pk_un hf, e2, bt_up_n (by omega), e1, bt_up_n (by omega)]
        have hI2 : bt_mI M3 (w, im, va_up u 5 (u 5 + 1), va_up (va_up z 1 (va_up (z 1) (u 5) j)) 2 (va_up (z 2) (u 5) a), q) := by
          refine bt_mI_uz hI hs ⟨bt_un 1 (by omega), bt_un 3 (by omega), bt_un 4 (by omega), bt_un 2 (by omega), fun k hk => ⟨bt_un _ (by omega), bt_un _ (by omega)⟩⟩ (fun x x1 x2 x3 => hx3 x (by omega) x3) (fun f _ hf => hf3 f hf) (by rw [bt_un 0 (by omega), hf3 10 (by omega)]; exact a3) (by rw [bt_un 0 (by omega), bt_up_n (by omega), bt_up_n (by omega), hx3 71 (by omega) (by omega)]; exact a4) (by rw [bt_up_s]; exact q3) ?_
          intro n hn
          rw [bt_up_s] at hn
          rw [e3, bt_up_n (by omega), e2, bt_up_s, e1, bt_up_s, bt_up_n (by omega), bt_up_s, bt_up_s]
          by_cases hn2 : n = u 5
          · rw [hn2, pk_un (by omega), pk_us, pk_us, bt_up_s, bt_up_s]; exact ⟨rfl, rfl⟩
          · rw [pk_un (by omega), pk_un (by omega), pk_un (by omega), pk_un (by omega), bt_up_n hn2, bt_up_n hn2]; exact a13 n (by omega)
        have key := h M3 (fun x hx => hx3 x (by omega) (by omega)) hI2
        rw [← q3] at key
        exact key
      · have y4 : u 5 = 6 := by
          rw [a12] at y3
          exact (nI_eq (b := 6) (by omega) (by omega)).mp y3
        have nok : ¬ ((bt_in k (w 12 1) ∧ bt_in t 1000) ∧ ¬ u 5 = 6) := fun c => c.2 y4
        rw [if_pos y4, if_neg nok, if_neg nok] at h
        exact h M (fun _ _ => rfl) hI
    · rw [bt_bi_0, bt_inl_c (k := 999) (show (999 : Int64) = lN 999 from rfl) (by omega)] at y2
      exact hbad (fun c => y2 c.2)
  · cases hf

def f_drive : bt_fn := fun t S => match t, S with
  | [.int g], (w, im, u, z, q) => some (.int (if bt_in g 10 then (if w 12 0 ≤ w 12 4 then -2 else nI (bt_mk (bt_cm w (w 12 4) g.toNatClampNeg (w 11)) (w 12 1))) else -1), (if bt_in g 10 ∧ ¬ w 12 0 ≤ w 12 4 then bt_dv w g.toNatClampNeg else w, im, u, z, q))
  | _, _ => none

def bt_CX5_drive : bt_C := [(57, 0, 3, sX5_within), (168, 1, 1, sX4_allHaveCome), (172, 1, 2, sX4_driveOne)]
def sX5_drive : bt_Sp := bt_spC f_drive
set_option maxRecDepth 100000 in
theorem mX5_drive : bt_MT bt_TX5_drive bt_FX5 bt_CX5_drive 1 2 sX5_drive := by
  intro as M N Rt h P hP
  obtain ⟨t, S, r, S', rfl, hI, hf, h⟩ := bt_spC_e h
  obtain ⟨w, im, u, z, q⟩ := S
  unfold f_drive at hf
  split at hf
  · next g _ _ _ _ _ e =>
    cases e
    obtain ⟨rfl, rfl⟩ := bt_some hf
    obtain ⟨a1, a2, a3, a4, a5, a6, a7, a8, a9, a10, a11, a12⟩ := id hI
    obtain ⟨b0, b1, b2, b3, b4, b5, b6, b7, b8, b9, b10⟩ := id a2
    obtain ⟨hw, h8, h9, h10, h11, h12, h13, h14, h15, h16, h17, r1, r2, r3, r4, r5, r6, r7, r8⟩ := id a1
    obtain ⟨f1, f2, f3, f4, f5, f6, f7, f8, f9, f10, f11, f12, f13, f14, f15, f16, f17, f18⟩ := id hw
    refine bt_go0 rfl hP 60 ?_
    refine ⟨fun y => ?_, fun y => ?_⟩
    · rw [bt_bi_n0, bt_in_c (k := 9) (show (9 : Int32) = nI 9 from rfl) (by omega)] at y
      rw [if_pos y] at h
      refine ⟨w, Or.inl rfl, a1, ?_⟩
      by_cases y2 : w 12 0 ≤ w 12 4
      · rw [if_pos y2]
        rw [if_pos y2, if_neg (fun c => c.2 y2)] at h
        exact ⟨fun c => absurd c (by decide), fun _ => h M N (fun _ _ => rfl) hI⟩
      · rw [if_neg y2]
        rw [if_neg y2, if_pos ⟨y, y2⟩] at h
        obtain ⟨j, hj, rfl⟩ := bt_in_e y
        rw [bt_clm (by omega)] at h
        refine ⟨fun _ => ?_, fun c => absurd rfl c⟩
        refine ⟨w, j, Or.inl rfl, a1, by omega, rfl, by omega, fun M' c1 c2 => ?_⟩
        exact h M' N (fun x hx => c2 x (by omega) (by omega)) (bt_cI_live hI c1 ⟨rfl, rfl⟩ (fun x hx => c2 x (by omega) (by omega)))
    · rw [bt_bi_0, bt_in_c (k := 9) (show (9 : Int32) = nI 9 from rfl) (by omega)] at y
      rw [if_neg y, if_neg (fun c => y c.1)] at h
      exact h M N (fun _ _ => rfl) hI
  · cases hf

def bt_CX6_drives : bt_C := [(46, 0, 3, sX6_in), (187, 1, 2, sX6_areLeft), (190, 1, 3, sX6_driveOn)]
def sX6_drives : bt_Sp := fun as M N K => match as with
  | [.ref c, .int g] => ∃ w, c = 67 ∧ bt_mW M 0 w ∧ (¬ bt_in g 10 → K (some (.int (-1))) M N) ∧ (bt_in g 10 → w 12 0 ≤ w 12 4 → K (some (.int (-2))) M N) ∧ (∀ j, g = nI j → j < 10 → w 12 4 < w 12 0 → ∀ M', bt_mW M' 0 (bt_dv w j) → bt_mfr 0 M M' → K (some (.int (nI (bt_mk (bt_cm w (w 12 4) j (w 11)) (w 12 1))))) M' N)
  | _ => False
theorem mX6_drives : bt_MT bt_TX6_drives bt_FX6 bt_CX6_drives 1 2 sX6_drives := by
  intro as M N Rt h P hP
  unfold sX6_drives at h
  split at h
  · obtain ⟨w, rfl, hw, h1, h2, h3⟩ := h
    have f1 := hw.1.1
    have f3 := hw.1.2.2.1
    have g5 := hw.2.2.2.2.2.1
    refine bt_go0 rfl hP 60 ⟨fun y => ?_, fun y => ?_⟩
    · rw [bt_bi_n0, bt_inl_c (k := 9) (show (9 : Int64) = lN 9 from rfl) (by omega)] at y
      refine ⟨0, w 12 4, w 12 0, rfl, rfl, by omega, g5, by omega, hw.2.1, f1, ?_⟩
      by_cases y2 : w 12 4 < w 12 0
      · rw [if_pos y2]
        obtain ⟨j, hj, rfl⟩ := bt_in_e y
        exact ⟨fun c => absurd c (by decide), fun _ => ⟨0, j, w, rfl, rfl, by omega, rfl, by omega, hw, y2, fun M' c1 c2 => h3 j rfl hj y2 M' c1 c2⟩⟩
      · rw [if_neg y2]
        exact ⟨fun _ => h2 y (by omega), fun c => absurd rfl c⟩
    · rw [bt_bi_0, bt_inl_c (k := 9) (show (9 : Int64) = lN 9 from rfl) (by omega)] at y
      exact h1 y
  · exact False.elim h

def bt_CX6_drive : bt_C := [(193, 1, 2, sX6_drives)]
def sX6_drive : bt_Sp := bt_spM f_drive
set_option maxRecDepth 100000 in
theorem mX6_drive : bt_MT bt_TX6_drive bt_FX6 bt_CX6_drive 1 2 sX6_drive := by
  intro as M N Rt h P hP
  obtain ⟨t, S, r, S', rfl, hI, hf, h⟩ := bt_spM_e h
  obtain ⟨w, im, u, z, q⟩ := S
  unfold f_drive at hf
  split at hf
  · next g _ _ _ _ _ e =>
    cases e
    obtain ⟨rfl, rfl⟩ := bt_some hf
    obtain ⟨a1, a2, a3, a4, a5, a6, a7, a8, a9, a10, a11, a12, a13, a14, a15⟩ := id hI
    obtain ⟨b0, b1, b2, b3, b4, b5, b6, b7, b8, b9, b10⟩ := id a2
    obtain ⟨hw, g1, g2, g3, g4, g5, g6, r0, r1, r2, r3, r4, r5, r6, c7, c8, c9, c10, c11⟩ := id a1
    obtain ⟨f1, f2, f3, f4, f5, f6, f7, f8, f9, f10, f11, f12, f13, f14, f15, f16, f17, f18⟩ := id hw
    simp only [Nat.zero_add] at g3 g4 g5 g6 r0 r1 r2 r3 r4 r5 r6 c7 c8 c9 c10
    refine bt_go0 rfl hP 60 ?_
    refine ⟨w, rfl, a1, fun y => ?_, fun y y2 => ?_, fun j hj1 hj y2 M' c1 c2 => ?_⟩
    · rw [if_neg y, if_neg (fun c => y c.1)] at h
      exact h M (fun _ _ => rfl) hI
    · rw [if_pos y, if_pos y2, if_neg (fun c => c.2 y2)] at h
      exact h M (fun _ _ => rfl) hI
    · subst hj1
      have y : bt_in (nI j) 10 := (bt_in_nI (by omega)).mpr hj
      have y3 : ¬ w 12 0 ≤ w 12 4 := by omega
      rw [if_pos y, if_neg y3, if_pos ⟨y, y3⟩, bt_clm (by omega)] at h
      exact h M' (fun x hx => c2.1 x (by omega)) (bt_mI_live hI c1 ⟨rfl, rfl⟩ (fun x _ hx => c2.1 x hx) (fun i hi _ => c2.2 i (by omega)))
  · cases hf

def f_on : bt_fn := fun t S => match t, S with
  | [], (w, im, u, z, q) => some (.int (if w 12 0 ≤ w 12 4 then -2 else nI (bt_mk (bt_cm w (w 12 4) (w 2 (w 12 4)) (w 11)) (w 12 1))), (if w 12 0 ≤ w 12 4 then w else bt_dv w (w 2 (w 12 4)), im, u, z, q))
  | _, _ => none

def bt_CX5_on : bt_C := [(168, 1, 1, sX4_allHaveCome), (172, 1, 2, sX4_driveOne)]
def sX5_on : bt_Sp := bt_spC f_on
set_option maxRecDepth 100000 in
theorem mX5_on : bt_MT bt_TX5_on bt_FX5 bt_CX5_on 1 1 sX5_on := by
  intro as M N Rt h P hP
  obtain ⟨t, S, r, S', rfl, hI, hf, h⟩ := bt_spC_e h
  obtain ⟨w, im, u, z, q⟩ := S
  unfold f_on at hf
  split at hf
  · next _ _ _ _ _ e =>
    cases e
    obtain ⟨rfl, rfl⟩ := bt_some hf
    obtain ⟨a1, a2, a3, a4, a5, a6, a7, a8, a9, a10, a11, a12⟩ := id hI
    obtain ⟨b0, b1, b2, b3, b4, b5, b6, b7, b8, b9, b10⟩ := id a2
    obtain ⟨hw, h8, h9, h10, h11, h12, h13, h14, h15, h16, h17, r1, r2, r3, r4, r5, r6, r7, r8⟩ := id a1
    obtain ⟨f1, f2, f3, f4, f5, f6, f7, f8, f9, f10, f11, f12, f13, f14, f15, f16, f17, f18⟩ := id hw
    refine bt_go0 rfl hP 60 ?_
    refine ⟨w, Or.inl rfl, a1, ?_⟩
    by_cases y2 : w 12 0 ≤ w 12 4
    · rw [if_pos y2]
      rw [if_pos y2, if_pos y2] at h
      exact ⟨fun c => absurd c (by decide), fun _ => h M N (fun _ _ => rfl) hI⟩
    · rw [if_neg y2]
      rw [if_neg y2, if_neg y2] at h
      refine ⟨fun _ => ?_, fun c => absurd rfl c⟩
      refine ⟨_, rfl, w 12 4, h16, by omega, ?_⟩
      refine ⟨w, w 2 (w 12 4), Or.inl rfl, a1, by omega, r3 _ (by omega), f9 _, fun M' c1 c2 => ?_⟩
      exact h M' N (fun x hx => c2 x (by omega) (by omega)) (bt_cI_live hI c1 ⟨rfl, rfl⟩ (fun x hx => c2 x (by omega) (by omega)))
  · cases hf

def bt_CX6_on : bt_C := [(187, 1, 2, sX6_areLeft), (196, 1, 2, sX6_ownGap), (190, 1, 3, sX6_driveOn)]
def sX6_on : bt_Sp := bt_spM f_on
set_option maxRecDepth 100000 in
theorem mX6_on : bt_MT bt_TX6_on bt_FX6 bt_CX6_on 1 1 sX6_on := by
  intro as M N Rt h P hP
  obtain ⟨t, S, r, S', rfl, hI, hf, h⟩ := bt_spM_e h
  obtain ⟨w, im, u, z, q⟩ := S
  unfold f_on at hf
  split at hf
  · next _ _ _ _ _ e =>
    cases e
    obtain ⟨rfl, rfl⟩ := bt_some hf
    obtain ⟨a1, a2, a3, a4, a5, a6, a7, a8, a9, a10, a11, a12, a13, a14, a15⟩ := id hI
    obtain ⟨b0, b1, b2, b3, b4, b5, b6, b7, b8, b9, b10⟩ := id a2
    obtain ⟨hw, g1, g2, g3, g4, g5, g6, r0, r1, r2, r3, r4, r5, r6, c7, c8, c9, c10, c11⟩ := id a1
    obtain ⟨f1, f2, f3, f4, f5, f6, f7, f8, f9, f10, f11, f12, f13, f14, f15, f16, f17, f18⟩ := id hw
    simp only [Nat.zero_add] at g3 g4 g5 g6 r0 r1 r2 r3 r4 r5 r6 c7 c8 c9 c10
    refine bt_go0 rfl hP 60 ?_
    refine ⟨0, w 12 4, w 12 0, rfl, rfl, by omega, by simpa using g5, by omega, g1, f1, ?_⟩
    by_cases y2 : w 12 0 ≤ w 12 4
    · rw [if_neg (by omega)]
      rw [if_pos y2, if_pos y2] at h
      exact ⟨fun _ => h M (fun _ _ => rfl) hI, fun c => absurd rfl c⟩
    · rw [if_pos (by omega)]
      rw [if_neg y2, if_neg y2] at h
      refine ⟨fun c => absurd c (by decide), fun _ => ?_⟩
      refine ⟨0, w 12 4, w 2 (w 12 4), rfl, rfl, by omega, by simpa using g5, by omega, by simpa using r2 _ (by omega), ?_⟩
      refine ⟨0, w 2 (w 12 4), w, rfl, rfl, by omega, rfl, f9 _, a1, by omega, fun M' c1 c2 => ?_⟩
      exact h M' (fun x hx => c2.1 x (by omega)) (bt_mI_live hI c1 ⟨rfl, rfl⟩ (fun x _ hx => c2.1 x hx) (fun i hi _ => c2.2 i (by omega)))
  · cases hf
end
section
/-! CALLS, BOTH SIDES: images, sheets -/

theorem bt_sW_im {w : bt_W} {im : Nat → bt_W} {u : Nat → Nat} {z : Nat → Nat → Nat} (h : bt_sW w im u z) {j : Nat} (hj : j < 2) : bt_sW w (va_up im j w) (va_up u (3 + j) 1) z := by
  obtain ⟨b0, b1, b2, b3, b4, b5, b6, b7, b8, b9, b10⟩ := h
  refine ⟨by rw [bt_un 0 (by omega)]; exact b0, b1, by rw [bt_un 1 (by omega)]; exact b2, by rw [bt_un 2 (by omega)]; exact b3, ?_, ?_, by rw [bt_un 5 (by omega)]; exact b6, fun k hk => by rw [bt_un (6 + k) (by omega), bt_un (10 + k) (by omega)]; exact b7 k hk, by rw [bt_un 5 (by omega)]; exact b8, ?_, ?_⟩
  all_goals obtain rfl | rfl : j = 0 ∨ j = 1 := by omega
  · rw [bt_up_s]; omega
  · rw [bt_un 3 (by omega)]; exact b4
  · rw [bt_un 4 (by omega)]; exact b5
  · rw [bt_up_s]; omega
  · rw [bt_up_s]; exact fun _ => ⟨rfl, rfl⟩
  · rw [bt_un 3 (by omega), bt_up_n (by omega)]; exact b9
  · rw [bt_un 4 (by omega), bt_up_n (by omega)]; exact b10
  · rw [bt_up_s, bt_up_s]; exact fun _ => ⟨rfl, rfl⟩
theorem bt_cI_im {M M' : bt_M} {w : bt_W} {im : Nat → bt_W} {u : Nat → Nat} {z : Nat → Nat → Nat} {q : Nat → Nat → Int32} (h : bt_cI M (w, im, u, z, q)) {j : Nat} (hj : j < 2) (h1 : ∀ x : Nat, x ≠ 0 → (x < 22 + 9 * j ∨ 22 + 9 * j + 8 < x) → M' x = M x) (h0 : ∀ f, f ≠ 10 → M' 0 f = M 0 f) (h10 : M' 0 10 = nI (va_up u (3 + j) 1 3 + 2 * va_up u (3 + j) 1 4)) (hw : bt_cW M' (22 + 9 * j) w) : bt_cI M' (w, va_up im j w, va_up u (3 + j) 1, z, q) := by
  obtain ⟨a1, a2, a3, a4, a5, a6, a7, a8, a9, a10, a11, a12⟩ := h
  refine ⟨bt_cW_kept a1 (fun x _ _ => h1 x (by omega) (by omega)), bt_sW_im a2 hj, ?_, ?_, ?_, h10, ?_, ?_, ?_, ?_, ?_, ?_⟩
  · rw [h0 8 (by omega), bt_un 0 (by omega)]; exact a3
  · rw [h1 1 (by omega) (by omega), bt_un 0 (by omega)]; exact a4
  · rw [h0 9 (by omega), bt_un 1 (by omega)]; exact a5
  · rw [h0 11 (by omega), bt_un 2 (by omega)]; exact a7
  · obtain rfl | rfl : j = 0 ∨ j = 1 := by omega
    · rw [bt_up_s]; exact fun _ => hw
    · rw [bt_un 3 (by omega), bt_up_n (by omega)]; exact fun y => bt_cW_kept (a8 y) (fun x _ _ => h1 x (by omega) (by omega))
  · obtain rfl | rfl : j = 0 ∨ j = 1 := by omega
    · rw [bt_un 4 (by omega), bt_up_n (by omega)]; exact fun y => bt_cW_kept (a9 y) (fun x _ _ => h1 x (by omega) (by omega))
    · rw [bt_up_s, bt_up_s]; exact fun _ => hw
  · intro k hk
    rw [h1 (41 + 2 * k) (by omega) (by omega), h1 (42 + 2 * k) (by omega) (by omega), bt_un (6 + k) (by omega), bt_un (10 + k) (by omega)]; exact a10 k hk
  · rw [h1 49 (by omega) (by omega), bt_un 5 (by omega)]; exact a11
  · rw [h1 50 (by omega) (by omega), h1 51 (by omega) (by omega), bt_un 5 (by omega)]; exact a12
theorem bt_mI_im {M M' : bt_M} {w : bt_W} {im : Nat → bt_W} {u : Nat → Nat} {z : Nat → Nat → Nat} {q : Nat → Nat → Int32} (h : bt_mI M (w, im, u, z, q)) {j : Nat} (hj : j < 2) (h1 : ∀ x : Nat, 67 ≤ x → x ≠ 68 → x ≠ 75 → M' x = M x) (h75 : M' 75 = upd (M 75) j 1) (h68 : ∀ i : Nat, (i < 90 * (j + 1) ∨ 90 * (j + 1) + 90 ≤ i) → M' 68 i = M 68 i) (hw : bt_mW M' (90 * (j + 1)) w) : bt_mI M' (w, va_up im j w, va_up u (3 + j) 1, z, q) := by
  obtain ⟨a1, a2, a3, a4, a5, a6, a7, a8, a9, a10, a11, a12, a13, a14, a15⟩ := h
  have kp : ∀ {p : Nat} {w : bt_W}, bt_mW M p w → (p + 90 ≤ 90 * (j + 1) ∨ 90 * (j + 1) + 90 ≤ p) → bt_mW M' p w := by
    intro p w hw hp
    obtain ⟨hf, g1, g2, g3, g4, g5, g6, r0, r1, r2, r3, r4, r5, r6, c7, c8, c9, c10, c11⟩ := hw
    have hn := hf.1
    have hm := hf.2.1
    refine ⟨hf, ?_, ?_, ?_, ?_, ?_, ?_, ?_, ?_, ?_, ?_, ?_, ?_, ?_, ?_, ?_, ?_, ?_, ?_⟩
    · rw [h1 67 (by omega) (by omega) (by omega)]; exact g1
    · rw [h1 67 (by omega) (by omega) (by omega)]; exact g2
    · rw [h68 _ (by omega)]; exact g3
    · rw [h68 _ (by omega)]; exact g4
    · rw [h68 _ (by omega)]; exact g5
    · rw [h68 _ (by omega)]; exact g6
    · intro i hi; rw [h68 _ (by omega)]; exact r0 i hi
    · intro i hi; rw [h68 _ (by omega)]; exact r1 i hi
    · intro i hi; rw [h68 _ (by omega)]; exact r2 i hi
    · intro i hi; rw [h68 _ (by omega)]; exact r3 i hi
    · intro i hi; rw [h68 _ (by omega)]; exact r4 i hi
    · intro i hi; rw [h68 _ (by omega)]; exact r5 i hi
    · intro i hi; rw [h68 _ (by omega)]; exact r6 i hi
    · intro i hi; rw [h68 _ (by omega)]; exact c7 i hi
    · intro i hi; rw [h68 _ (by omega)]; exact c8 i hi
    · intro i hi; rw [h68 _ (by omega)]; exact c9 i hi
    · intro i hi; rw [h68 _ (by omega)]; exact c10 i hi
    · intro i hi; rw [h68 _ (by omega)]; exact c11 i hi
  have hx := fun x (y1 : 67 ≤ x) (y2 : x ≠ 68) (y3 : x ≠ 75) => h1 x y1 y2 y3
  refine ⟨kp a1 (by omega), bt_sW_im a2 hj, ?_, ?_, ?_, ?_, ?_, ?_, ?_, ?_, ?_, ?_, ?_, ?_, ?_⟩
  · rw [h1 67 (by omega) (by omega) (by omega), bt_un 0 (by omega)]; exact a3
  · rw [h1 71 (by omega) (by omega) (by omega), bt_un 0 (by omega)]; exact a4
  · rw [h1 67 (by omega) (by omega) (by omega), bt_un 1 (by omega)]; exact a5
  · rw [h1 67 (by omega) (by omega) (by omega), bt_un 2 (by omega)]; exact a6
  · obtain rfl | rfl : j = 0 ∨ j = 1 := by omega
    · rw [bt_up_s, h75, pk_us]; rfl
    · rw [bt_un 3 (by omega), h75, pk_un (by omega)]; exact a7
  · obtain rfl | rfl : j = 0 ∨ j = 1 := by omega
    · rw [bt_un 4 (by omega), h75, pk_un (by omega)]; exact a8
    · rw [bt_up_s, h75, pk_us]; rfl
  · obtain rfl | rfl : j = 0 ∨ j = 1 := by omega
    · rw [bt_up_s]; exact fun _ => hw
    · rw [bt_un 3 (by omega), bt_up_n (by omega)]; exact fun y => kp (a9 y) (by omega)
  · obtain rfl | rfl : j = 0 ∨ j = 1 := by omega
    · rw [bt_un 4 (by omega), bt_up_n (by omega)]; exact fun y => kp (a10 y) (by omega)
    · rw [bt_up_s, bt_up_s]; exact fun _ => hw
  · intro k hk
    rw [h1 76 (by omega) (by omega) (by omega), h1 77 (by omega) (by omega) (by omega), h1 78 (by omega) (by omega) (by omega), bt_un (6 + k) (by omega), bt_un (10 + k) (by omega)]; exact a11 k hk
  · rw [h1 67 (by omega) (by omega) (by omega), bt_un 5 (by omega)]; exact a12
  · rw [h1 74 (by omega) (by omega) (by omega), bt_un 5 (by omega)]; exact a13
  · rw [h1 72 (by omega) (by omega) (by omega)]; exact a14
  · rw [h1 73 (by omega) (by omega) (by omega)]; exact a15
theorem bt_im_b0 : ∀ a, a < 2 → ∀ b, b < 2 → (nI (a + 2 * b) >>> (nI 0 &&& 31)) &&& 1 = nI a ∧ (nI (a + 2 * b) >>> (nI 1 &&& 31)) &&& 1 = nI b ∧ nI (a + 2 * b) ||| (1 <<< (nI 0 &&& 31)) = nI (1 + 2 * b) ∧ nI (a + 2 * b) ||| (1 <<< (nI 1 &&& 31)) = nI (a + 2 * 1) := by decide +kernel

def f_keep : bt_fn := fun t S => match t, S with
  | [.int n], (w, im, u, z, q) => some (.int (if bt_in n 2 then nI (u (3 + n.toNatClampNeg)) else -1), (w, if bt_in n 2 then va_up im n.toNatClampNeg w else im, if bt_in n 2 then va_up u (3 + n.toNatClampNeg) 1 else u, z, q))
  | _, _ => none

def bt_CX5_keep : bt_C := [(57, 0, 3, sX5_within), (129, 0, 2, sX5_bit), (78, 1, 2, sX4_takeFrom), (164, 0, 3, sX5_withBit)]
def sX5_keep : bt_Sp := bt_spC f_keep
set_option maxRecDepth 100000 in
theorem mX5_keep : bt_MT bt_TX5_keep bt_FX5 bt_CX5_keep 1 3 sX5_keep := by
  intro as M N Rt h P hP
  obtain ⟨t, S, r, S', rfl, hI, hf, h⟩ := bt_spC_e h
  obtain ⟨w, im, u, z, q⟩ := S
  unfold f_keep at hf
  split at hf
  · next n _ _ _ _ _ e =>
    cases e
    obtain ⟨rfl, rfl⟩ := bt_some hf
    obtain ⟨a1, a2, a3, a4, a5, a6, a7, a8, a9, a10, a11, a12⟩ := id hI
    obtain ⟨b0, b1, b2, b3, b4, b5, b6, b7, b8, b9, b10⟩ := id a2
    obtain ⟨hw, h8, h9, h10, h11, h12, h13, h14, h15, h16, h17, r1, r2, r3, r4, r5, r6, r7, r8⟩ := id a1
    obtain ⟨f1, f2, f3, f4, f5, f6, f7, f8, f9, f10, f11, f12, f13, f14, f15, f16, f17, f18⟩ := id hw
    have bb := bt_im_b0 (u 3) (by omega) (u 4) (by omega)
    refine bt_go0 rfl hP 60 ?_
    refine ⟨fun y => ?_, fun y => ?_⟩
    · rw [bt_bi_n0, bt_in_c (k := 1) (show (1 : Int32) = nI 1 from rfl) (by omega)] at y
      rw [if_pos y, if_pos y, if_pos y] at h
      obtain ⟨j, hj, rfl⟩ := bt_in_e y
      rw [bt_clm (by omega)] at h
      obtain rfl | rfl : j = 0 ∨ j = 1 := by omega
      · refine ⟨_, rfl, 0, rfl, by omega, ?_⟩
        refine ⟨w, by unfold bt_tf; decide, a1, fun M1 c1' c2' => ?_⟩
        have c1 : bt_cW M1 22 w := c1'
        have c2 : bt_out 22 M M1 := c2'
        intro M2 e2
        rw [if_neg (show ¬ (1 : Int32) = 0 by decide), c2 0 (by omega), a6, bb.2.2.1] at e2
        have key := h M2 N (fun x hx => by rw [e2, bt_up_n (by omega), c2 x (by omega)]) (bt_cI_im (j := 0) hI (by omega) (fun x x1 x2 => by rw [e2, bt_up_n x1, c2 x (by omega)]) (fun f hf => by rw [e2, bt_up_s, pk_un hf]) (by rw [e2, bt_up_s, pk_us]; rfl) (bt_cW_kept c1 (fun x _ _ => by rw [e2, bt_up_n (by omega)])))
        rw [show nI (u (3 + 0)) = M 0 10 >>> (nI 0 &&& 31) &&& 1 from by rw [a6, bb.1]] at key
        exact key
      · refine ⟨_, rfl, 1, rfl, by omega, ?_⟩
        refine ⟨w, by unfold bt_tf; decide, a1, fun M1 c1' c2' => ?_⟩
        have c1 : bt_cW M1 31 w := c1'
        have c2 : bt_out 31 M M1 := c2'
        intro M2 e2
        rw [if_neg (show ¬ (1 : Int32) = 0 by decide), c2 0 (by omega), a6, bb.2.2.2] at e2
        have key := h M2 N (fun x hx => by rw [e2, bt_up_n (by omega), c2 x (by omega)]) (bt_cI_im (j := 1) hI (by omega) (fun x x1 x2 => by rw [e2, bt_up_n x1, c2 x (by omega)]) (fun f hf => by rw [e2, bt_up_s, pk_un hf]) (by rw [e2, bt_up_s, pk_us]; rfl) (bt_cW_kept c1 (fun x _ _ => by rw [e2, bt_up_n (by omega)])))
        rw [show nI (u (3 + 1)) = M 0 10 >>> (nI 1 &&& 31) &&& 1 from by rw [a6, bb.2.1]] at key
        exact key
    · rw [bt_bi_0, bt_in_c (k := 1) (show (1 : Int32) = nI 1 from rfl) (by omega)] at y
      rw [if_neg y, if_neg y, if_neg y] at h
      exact h M N (fun _ _ => rfl) hI
  · cases hf

def bt_CX6_keep : bt_C := [(46, 0, 3, sX6_in), (199, 1, 3, sX6_copies)]
def sX6_keep : bt_Sp := bt_spM f_keep
set_option maxRecDepth 100000 in
theorem mX6_keep : bt_MT bt_TX6_keep bt_FX6 bt_CX6_keep 1 3 sX6_keep := by
  intro as M N Rt h P hP
  obtain ⟨t, S, r, S', rfl, hI, hf, h⟩ := bt_spM_e h
  obtain ⟨w, im, u, z, q⟩ := S
  unfold f_keep at hf
  split at hf
  · next n _ _ _ _ _ e =>
    cases e
    obtain ⟨rfl, rfl⟩ := bt_some hf
    obtain ⟨a1, a2, a3, a4, a5, a6, a7, a8, a9, a10, a11, a12, a13, a14, a15⟩ := id hI
    obtain ⟨b0, b1, b2, b3, b4, b5, b6, b7, b8, b9, b10⟩ := id a2
    obtain ⟨hw, g1, g2, g3, g4, g5, g6, r0, r1, r2, r3, r4, r5, r6, c7, c8, c9, c10, c11⟩ := id a1
    obtain ⟨f1, f2, f3, f4, f5, f6, f7, f8, f9, f10, f11, f12, f13, f14, f15, f16, f17, f18⟩ := id hw
    simp only [Nat.zero_add] at g3 g4 g5 g6 r0 r1 r2 r3 r4 r5 r6 c7 c8 c9 c10
    refine bt_go0 rfl hP 60 ?_
    refine ⟨fun y => ?_, fun y => ?_⟩
    · rw [bt_bi_n0, bt_inl_c (k := 1) (show (1 : Int64) = lN 1 from rfl) (by omega)] at y
      rw [if_pos y, if_pos y, if_pos y] at h
      obtain ⟨j, hj, rfl⟩ := bt_in_e y
      rw [bt_clm (by omega)] at h
      obtain rfl | rfl : j = 0 ∨ j = 1 := by omega
      · refine ⟨0, 90, rfl, rfl, by omega, by decide, by omega, Or.inl (by omega), fun M1 c1 c2 => ?_⟩
        have hk : ∀ M2, M2 = va_up M1 75 (upd (M1 75) 0 (1 &&& 1)) → Rt (some (.int (nI (u (3 + 0))))) M2 N := fun M2 e2 => by
          refine h M2 (fun x hx => by rw [e2, bt_up_n (by omega), c1.1 x (by omega)]) (bt_mI_im (j := 0) hI (by omega) (fun x x1 x2 x3 => by rw [e2, bt_up_n x3, c1.1 x x2]) (by rw [e2, bt_up_s, c1.1 75 (by omega)]; rfl) (fun i hi => by rw [e2, bt_up_n (by omega), c1.2 i (by omega)]) (bt_mW_far (bt_mW_copy a1 c1.1 c2) ⟨by rw [e2, bt_up_n (by omega)], by rw [e2, bt_up_n (by omega)]⟩ (by rw [e2, bt_up_n (by omega)])))
        refine ⟨_, rfl, 0, rfl, by omega, ⟨fun y2 => ?_, fun y2 => ?_⟩⟩
        · refine ⟨_, rfl, 0, rfl, by omega, fun M2 e2 => ?_⟩
          have key := hk M2 e2
          rw [show nI (u (3 + 0)) = 0 from by rw [← y2, c1.1 75 (by omega)]; exact a7.symm] at key
          exact key
        · refine ⟨_, rfl, 0, rfl, by omega, fun M2 e2 => ?_⟩
          have key := hk M2 e2
          have y3 : u (3 + 0) = 1 := by
            have : ¬ u (3 + 0) = 0 := fun c => y2 (by rw [c1.1 75 (by omega), a7]; exact congrArg nI c)
            have b45 : u (3 + 0) ≤ 1 := b4
            omega
          rw [y3] at key
          exact key
      · refine ⟨0, 180, rfl, rfl, by omega, by decide, by omega, Or.inl (by omega), fun M1 c1 c2 => ?_⟩
        have hk : ∀ M2, M2 = va_up M1 75 (upd (M1 75) 1 (1 &&& 1)) → Rt (some (.int (nI (u (3 + 1))))) M2 N := fun M2 e2 => by
          refine h M2 (fun x hx => by rw [e2, bt_up_n (by omega), c1.1 x (by omega)]) (bt_mI_im (j := 1) hI (by omega) (fun x x1 x2 x3 => by rw [e2, bt_up_n x3, c1.1 x x2]) (by rw [e2, bt_up_s, c1.1 75 (by omega)]; rfl) (fun i hi => by rw [e2, bt_up_n (by omega), c1.2 i (by omega)]) (bt_mW_far (bt_mW_copy a1 c1.1 c2) ⟨by rw [e2, bt_up_n (by omega)], by rw [e2, bt_up_n (by omega)]⟩ (by rw [e2, bt_up_n (by omega)])))
        refine ⟨_, rfl, 1, rfl, by omega, ⟨fun y2 => ?_, fun y2 => ?_⟩⟩
        · refine ⟨_, rfl, 1, rfl, by omega, fun M2 e2 => ?_⟩
          have key := hk M2 e2
          rw [show nI (u (3 + 1)) = 0 from by rw [← y2, c1.1 75 (by omega)]; exact a8.symm] at key
          exact key
        · refine ⟨_, rfl, 1, rfl, by omega, fun M2 e2 => ?_⟩
          have key := hk M2 e2
          have y3 : u (3 + 1) = 1 := by
            have : ¬ u (3 + 1) = 0 := fun c => y2 (by rw [c1.1 75 (by omega), a8]; exact congrArg nI c)
            have b45 : u (3 + 1) ≤ 1 := b5
            omega
          rw [y3] at key
          exact key
    · rw [bt_bi_0, bt_inl_c (k := 1) (show (1 : Int64) = lN 1 from rfl) (by omega)] at y
      rw [if_neg y, if_neg y, if_neg y] at h
      exact h M (fun _ _ => rfl) hI
  · cases hf

def f_back : bt_fn := fun t S => match t, S with
  | [.int n], (w, im, u, z, q) => some (.int (if bt_in n 2 then (if u (3 + n.toNatClampNeg) = 0 then -2 else nI (im n.toNatClampNeg 12 4)) else -1), (if bt_in n 2 ∧ ¬ u (3 + n.toNatClampNeg) = 0 then im n.toNatClampNeg else w, im, u, z, q))
  | _, _ => none

def bt_CX5_back : bt_C := [(57, 0, 3, sX5_within), (129, 0, 2, sX5_bit), (78, 1, 2, sX4_takeFrom)]
def sX5_back : bt_Sp := bt_spC f_back
set_option maxRecDepth 100000 in
theorem mX5_back : bt_MT bt_TX5_back bt_FX5 bt_CX5_back 1 2 sX5_back := by
  intro as M N Rt h P hP
  obtain ⟨t, S, r, S', rfl, hI, hf, h⟩ := bt_spC_e h
  obtain ⟨w, im, u, z, q⟩ := S
  unfold f_back at hf
  split at hf
  · next n _ _ _ _ _ e =>
    cases e
    obtain ⟨rfl, rfl⟩ := bt_some hf
    obtain ⟨a1, a2, a3, a4, a5, a6, a7, a8, a9, a10, a11, a12⟩ := id hI
    obtain ⟨b0, b1, b2, b3, b4, b5, b6, b7, b8, b9, b10⟩ := id a2
    obtain ⟨hw, h8, h9, h10, h11, h12, h13, h14, h15, h16, h17, r1, r2, r3, r4, r5, r6, r7, r8⟩ := id a1
    obtain ⟨f1, f2, f3, f4, f5, f6, f7, f8, f9, f10, f11, f12, f13, f14, f15, f16, f17, f18⟩ := id hw
    have bb := bt_im_b0 (u 3) (by omega) (u 4) (by omega)
    refine bt_go0 rfl hP 60 ?_
    refine ⟨fun y => ?_, fun y => ?_⟩
    · rw [bt_bi_n0, bt_in_c (k := 1) (show (1 : Int32) = nI 1 from rfl) (by omega)] at y
      rw [if_pos y] at h
      obtain ⟨j, hj, rfl⟩ := bt_in_e y
      rw [bt_clm (by omega)] at h
      obtain rfl | rfl : j = 0 ∨ j = 1 := by omega
      · have hb : M 0 10 >>> (nI 0 &&& 31) &&& 1 = nI (u (3 + 0)) := by rw [a6, bb.1]
        have hu1 : u (3 + 0) ≤ 1 := b4
        refine ⟨fun y2 => ?_, fun y2 => ?_⟩
        · have y3 : ¬ u (3 + 0) = 0 := fun c => y2 (by rw [hb, c]; rfl)
          have y4 : u (3 + 0) = 1 := by omega
          rw [if_neg y3, if_pos ⟨y, y3⟩] at h
          refine ⟨_, rfl, 0, rfl, by omega, ?_⟩
          refine ⟨im 0, by unfold bt_tf; decide, a8 y4, fun M1 c1 c2 => ?_⟩
          have hn := b9 y4
          have key := h M1 N (fun x hx => c2 x (by omega)) (bt_cI_live hI c1 hn (fun x hx => c2 x (by omega)))
          rw [← c1.2.2.2.2.2.2.2.2.2.1] at key
          exact key
        · have y3 : u (3 + 0) = 0 := by
            rw [hb] at y2
            exact (nI_eq (b := 0) (by omega) (by omega)).mp y2
          rw [if_pos y3, if_neg (fun c => c.2 y3)] at h
          exact h M N (fun _ _ => rfl) hI
      · have hb : M 0 10 >>> (nI 1 &&& 31) &&& 1 = nI (u (3 + 1)) := by rw [a6, bb.2.1]
        have hu1 : u (3 + 1) ≤ 1 := b5
        refine ⟨fun y2 => ?_, fun y2 => ?_⟩
        · have y3 : ¬ u (3 + 1) = 0 := fun c => y2 (by rw [hb, c]; rfl)
          have y4 : u (3 + 1) = 1 := by omega
          rw [if_neg y3, if_pos ⟨y, y3⟩] at h
          refine ⟨_, rfl, 1, rfl, by omega, ?_⟩
          refine ⟨im 1, by unfold bt_tf; decide, a9 y4, fun M1 c1 c2 => ?_⟩
          have hn := b10 y4
          have key := h M1 N (fun x hx => c2 x (by omega)) (bt_cI_live hI c1 hn (fun x hx => c2 x (by omega)))
          rw [← c1.2.2.2.2.2.2.2.2.2.1] at key
          exact key
        · have y3 : u (3 + 1) = 0 := by
            rw [hb] at y2
            exact (nI_eq (b := 0) (by omega) (by omega)).mp y2
          rw [if_pos y3, if_neg (fun c => c.2 y3)] at h
          exact h M N (fun _ _ => rfl) hI
    · rw [bt_bi_0, bt_in_c (k := 1) (show (1 : Int32) = nI 1 from rfl) (by omega)] at y
      rw [if_neg y, if_neg (fun c => y c.1)] at h
      exact h M N (fun _ _ => rfl) hI
  · cases hf

def bt_CX6_back : bt_C := [(46, 0, 3, sX6_in), (199, 1, 3, sX6_copies)]
def sX6_back : bt_Sp := bt_spM f_back
set_option maxRecDepth 100000 in
theorem mX6_back : bt_MT bt_TX6_back bt_FX6 bt_CX6_back 1 2 sX6_back := by
  intro as M N Rt h P hP
  obtain ⟨t, S, r, S', rfl, hI, hf, h⟩ := bt_spM_e h
  obtain ⟨w, im, u, z, q⟩ := S
  unfold f_back at hf
  split at hf
  · next n _ _ _ _ _ e =>
    cases e
    obtain ⟨rfl, rfl⟩ := bt_some hf
    obtain ⟨a1, a2, a3, a4, a5, a6, a7, a8, a9, a10, a11, a12, a13, a14, a15⟩ := id hI
    obtain ⟨b0, b1, b2, b3, b4, b5, b6, b7, b8, b9, b10⟩ := id a2
    obtain ⟨hw, g1, g2, g3, g4, g5, g6, r0, r1, r2, r3, r4, r5, r6, c7, c8, c9, c10, c11⟩ := id a1
    obtain ⟨f1, f2, f3, f4, f5, f6, f7, f8, f9, f10, f11, f12, f13, f14, f15, f16, f17, f18⟩ := id hw
    simp only [Nat.zero_add] at g3 g4 g5 g6 r0 r1 r2 r3 r4 r5 r6 c7 c8 c9 c10
    refine bt_go0 rfl hP 60 ?_
    refine ⟨fun y => ?_, fun y => ?_⟩
    · rw [bt_bi_n0, bt_inl_c (k := 1) (show (1 : Int64) = lN 1 from rfl) (by omega)] at y
      rw [if_pos y] at h
      obtain ⟨j, hj, rfl⟩ := bt_in_e y
      rw [bt_clm (by omega)] at h
      obtain rfl | rfl : j = 0 ∨ j = 1 := by omega
      · have hu1 : u (3 + 0) ≤ 1 := b4
        have hb : M 75 0 = nI (u (3 + 0)) := a7
        refine ⟨_, rfl, 0, rfl, by omega, ⟨fun y2 => ?_, fun y2 => ?_⟩⟩
        · have y3 : ¬ u (3 + 0) = 0 := fun c => y2 (by rw [hb, c]; rfl)
          have y4 : u (3 + 0) = 1 := by omega
          rw [if_neg y3, if_pos ⟨y, y3⟩] at h
          have hw1 := a9 y4
          refine ⟨90, 0, rfl, by decide, by omega, rfl, by omega, Or.inr (by omega), fun M1 c1 c2 => ?_⟩
          have hw2 : bt_mW M1 0 (im 0) := bt_mW_copy hw1 c1.1 c2
          refine ⟨_, rfl, 88, rfl, by omega, ?_⟩
          have key := h M1 (fun x hx => c1.1 x (by omega)) (bt_mI_live hI hw2 (b9 y4) (fun x _ hx => c1.1 x hx) (fun i hi _ => c1.2 i (by omega)))
          rw [← hw2.2.2.2.2.2.1] at key
          exact key
        · have y3 : u (3 + 0) = 0 := by
            rw [hb] at y2
            exact (nI_eq (b := 0) (by omega) (by omega)).mp y2
          rw [if_pos y3, if_neg (fun c => c.2 y3)] at h
          exact h M (fun _ _ => rfl) hI
      · have hu1 : u (3 + 1) ≤ 1 := b5
        have hb : M 75 1 = nI (u (3 + 1)) := a8
        refine ⟨_, rfl, 1, rfl, by omega, ⟨fun y2 => ?_, fun y2 => ?_⟩⟩
        · have y3 : ¬ u (3 + 1) = 0 := fun c => y2 (by rw [hb, c]; rfl)
          have y4 : u (3 + 1) = 1 := by omega
          rw [if_neg y3, if_pos ⟨y, y3⟩] at h
          have hw1 := a10 y4
          refine ⟨180, 0, rfl, by decide, by omega, rfl, by omega, Or.inr (by omega), fun M1 c1 c2 => ?_⟩
          have hw2 : bt_mW M1 0 (im 1) := bt_mW_copy hw1 c1.1 c2
          refine ⟨_, rfl, 88, rfl, by omega, ?_⟩
          have key := h M1 (fun x hx => c1.1 x (by omega)) (bt_mI_live hI hw2 (b10 y4) (fun x _ hx => c1.1 x hx) (fun i hi _ => c1.2 i (by omega)))
          rw [← hw2.2.2.2.2.2.1] at key
          exact key
        · have y3 : u (3 + 1) = 0 := by
            rw [hb] at y2
            exact (nI_eq (b := 0) (by omega) (by omega)).mp y2
          rw [if_pos y3, if_neg (fun c => c.2 y3)] at h
          exact h M (fun _ _ => rfl) hI
    · rw [bt_bi_0, bt_inl_c (k := 1) (show (1 : Int64) = lN 1 from rfl) (by omega)] at y
      rw [if_neg y, if_neg (fun c => y c.1)] at h
      exact h M (fun _ _ => rfl) hI
  · cases hf
end
section
/-! CALLS, BOTH SIDES: sheets -/

theorem bt_sx8 (v : Int32) : (v <<< ((24 : Int32) &&& 31)) >>> ((24 : Int32) &&& 31) = v.toInt8.toInt32 := by
  apply Int32.toBitVec_inj.mp
  rw [Int32.toBitVec_shiftRight, Int32.toBitVec_shiftLeft, show ((24 : Int32) &&& 31).toBitVec.smod 32 = 24#32 from by decide]
  show _ = (v.toBitVec.signExtend 8).signExtend 32
  generalize v.toBitVec = x
  ext i hi
  rw [BitVec.sshiftRight_eq', BitVec.getElem_sshiftRight, BitVec.getElem_signExtend]
  simp only [BitVec.shiftLeft_eq', BitVec.msb_eq_getLsbD_last, BitVec.getLsbD_shiftLeft, BitVec.getElem_signExtend, BitVec.getLsbD_signExtend, BitVec.getElem_shiftLeft]
  by_cases h : i < 8
  · simp [h]
    rw [dif_pos (by omega), dif_pos (by omega), decide_eq_false (by omega)]
    simp
  · simp [h]; omega
theorem bt_sx16 (v : Int32) : (v <<< ((16 : Int32) &&& 31)) >>> ((16 : Int32) &&& 31) = v.toInt16.toInt32 := by
  apply Int32.toBitVec_inj.mp
  rw [Int32.toBitVec_shiftRight, Int32.toBitVec_shiftLeft, show ((16 : Int32) &&& 31).toBitVec.smod 32 = 16#32 from by decide]
  show _ = (v.toBitVec.signExtend 16).signExtend 32
  generalize v.toBitVec = x
  ext i hi
  rw [BitVec.sshiftRight_eq', BitVec.getElem_sshiftRight, BitVec.getElem_signExtend]
  simp only [BitVec.shiftLeft_eq', BitVec.msb_eq_getLsbD_last, BitVec.getLsbD_shiftLeft, BitVec.getElem_signExtend, BitVec.getLsbD_signExtend, BitVec.getElem_shiftLeft]
  by_cases h : i < 16
  · simp [h]
    rw [dif_pos (by omega), dif_pos (by omega), decide_eq_false (by omega)]
    simp
  · simp [h]; omega

theorem bt_rf40 : ∀ j, j < 4 → bt_rf 40 j = 41 + 2 * j := by decide
def bt_fa (n l : Nat) (l' i : Int32) : Nat := if n = 0 then 1 else if l' = nI l then (if bt_in i (n - 1) then 0 else 2) else 3
def bt_cv (l : Nat) (v : Int32) : Int32 := if l = 0 then v.toInt8.toInt32 else if l = 1 then v.toInt16.toInt32 else v
theorem bt_sW_sh {w : bt_W} {im : Nat → bt_W} {u u' : Nat → Nat} {z : Nat → Nat → Nat} (h : bt_sW w im u z) {k : Nat} (hu : ∀ i, i ≠ 6 + k → i ≠ 10 + k → u' i = u i) (h6 : u' (6 + k) ≤ 41) (h10 : u' (10 + k) ≤ 2) (hk : k < 4) : bt_sW w im u' z := by
  obtain ⟨b0, b1, b2, b3, b4, b5, b6, b7, b8, b9, b10⟩ := h
  unfold bt_sW
  rw [hu 0 (by omega) (by omega), hu 1 (by omega) (by omega), hu 2 (by omega) (by omega), hu 3 (by omega) (by omega), hu 4 (by omega) (by omega), hu 5 (by omega) (by omega)]
  refine ⟨b0, b1, b2, b3, b4, b5, b6, fun k' hk' => ?_, b8, b9, b10⟩
  by_cases e : k' = k
  · subst e; exact ⟨h6, h10⟩
  · rw [hu (6 + k') (by omega) (by omega), hu (10 + k') (by omega) (by omega)]; exact b7 k' hk'
theorem bt_cI_sh {M M' : bt_M} {w : bt_W} {im : Nat → bt_W} {u u' : Nat → Nat} {z : Nat → Nat → Nat} {q q' : Nat → Nat → Int32} (h : bt_cI M (w, im, u, z, q)) {k : Nat} (hk : k < 4) (hu : ∀ i, i ≠ 6 + k → i ≠ 10 + k → u' i = u i) (h6 : u' (6 + k) ≤ 41) (h10 : u' (10 + k) ≤ 2) (hq : ∀ i, i ≠ k → q' i = q i) (h1 : ∀ x : Nat, x ≠ 41 + 2 * k → x ≠ 42 + 2 * k → M' x = M x) (h2 : M' (41 + 2 * k) 2 = nI (u' (6 + k)) - 1) (h3 : M' (41 + 2 * k) 1 = nI (u' (10 + k))) (h4 : ∀ j, j < 40 → M' (42 + 2 * k) j = q' k j) : bt_cI M' (w, im, u', z, q') := by
  obtain ⟨a1, a2, a3, a4, a5, a6, a7, a8, a9, a10, a11, a12⟩ := h
  refine ⟨bt_cW_kept a1 (fun x _ _ => h1 x (by omega) (by omega)), bt_sW_sh a2 hu h6 h10 hk, ?_, ?_, ?_, ?_, ?_, ?_, ?_, ?_, ?_, ?_⟩
  · rw [h1 0 (by omega) (by omega), hu 0 (by omega) (by omega)]; exact a3
  · rw [h1 1 (by omega) (by omega), hu 0 (by omega) (by omega)]; exact a4
  · rw [h1 0 (by omega) (by omega), hu 1 (by omega) (by omega)]; exact a5
  · rw [h1 0 (by omega) (by omega), hu 3 (by omega) (by omega), hu 4 (by omega) (by omega)]; exact a6
  · rw [h1 0 (by omega) (by omega), hu 2 (by omega) (by omega)]; exact a7
  · rw [hu 3 (by omega) (by omega)]; exact fun y => bt_cW_kept (a8 y) (fun x _ _ => h1 x (by omega) (by omega))
  · rw [hu 4 (by omega) (by omega)]; exact fun y => bt_cW_kept (a9 y) (fun x _ _ => h1 x (by omega) (by omega))
  · intro k' hk'
    by_cases e : k' = k
    · subst e; exact ⟨h2, h3, h4⟩
    · rw [h1 (41 + 2 * k') (by omega) (by omega), h1 (42 + 2 * k') (by omega) (by omega), hu (6 + k') (by omega) (by omega), hu (10 + k') (by omega) (by omega), hq k' e]; exact a10 k' hk'
  · rw [h1 49 (by omega) (by omega), hu 5 (by omega) (by omega)]; exact a11
  · rw [h1 50 (by omega) (by omega), h1 51 (by omega) (by omega), hu 5 (by omega) (by omega)]; exact a12
theorem bt_mI_sh {M M' : bt_M} {w : bt_W} {im : Nat → bt_W} {u u' : Nat → Nat} {z : Nat → Nat → Nat} {q q' : Nat → Nat → Int32} (h : bt_mI M (w, im, u, z, q)) {k : Nat} (hk : k < 4) (hu : ∀ i, i ≠ 6 + k → i ≠ 10 + k → u' i = u i) (h6 : u' (6 + k) ≤ 41) (h10 : u' (10 + k) ≤ 2) (hq : ∀ i, i ≠ k → q' i = q i) (h1 : ∀ x : Nat, 67 ≤ x → x < 76 → M' x = M x) (h76 : ∀ i, i ≠ k → M' 76 i = M 76 i) (h77 : ∀ i, i ≠ k → M' 77 i = M 77 i) (h78 : ∀ j, (j < 40 * k ∨ 40 * k + 40 ≤ j) → M' 78 j = M 78 j) (h2 : M' 76 k = (if u' (6 + k) = 0 then -4 else nI (u' (10 + k)))) (h3 : u' (6 + k) ≠ 0 → M' 77 k = nI (u' (6 + k) - 1)) (h4 : ∀ j, j < 40 → M' 78 (40 * k + j) = q' k j) : bt_mI M' (w, im, u', z, q') := by
  obtain ⟨a1, a2, a3, a4, a5, a6, a7, a8, a9, a10, a11, a12, a13, a14, a15⟩ := h
  have k12 : M' 67 1 = M 67 1 ∧ M' 67 2 = M 67 2 := by rw [h1 67 (by omega) (by omega)]; exact ⟨rfl, rfl⟩
  have k68 : M' 68 = M 68 := h1 68 (by omega) (by omega)
  refine ⟨bt_mW_far a1 k12 k68, bt_sW_sh a2 hu h6 h10 hk, ?_, ?_, ?_, ?_, ?_, ?_, ?_, ?_, ?_, ?_, ?_, ?_, ?_⟩
  · rw [h1 67 (by omega) (by omega), hu 0 (by omega) (by omega)]; exact a3
  · rw [h1 71 (by omega) (by omega), hu 0 (by omega) (by omega)]; exact a4
  · rw [h1 67 (by omega) (by omega), hu 1 (by omega) (by omega)]; exact a5
  · rw [h1 67 (by omega) (by omega), hu 2 (by omega) (by omega)]; exact a6
  · rw [h1 75 (by omega) (by omega), hu 3 (by omega) (by omega)]; exact a7
  · rw [h1 75 (by omega) (by omega), hu 4 (by omega) (by omega)]; exact a8
  · rw [hu 3 (by omega) (by omega)]; exact fun y => bt_mW_far (a9 y) k12 k68
  · rw [hu 4 (by omega) (by omega)]; exact fun y => bt_mW_far (a10 y) k12 k68
  · intro k' hk'
    by_cases e : k' = k
    · subst e; exact ⟨h2, h3, h4⟩
    · rw [h76 k' e, h77 k' e, hu (6 + k') (by omega) (by omega), hu (10 + k') (by omega) (by omega), hq k' e]
      refine ⟨(a11 k' hk').1, (a11 k' hk').2.1, fun j hj => ?_⟩
      rw [h78 _ (by omega)]; exact (a11 k' hk').2.2 j hj
  · rw [h1 67 (by omega) (by omega), hu 5 (by omega) (by omega)]; exact a12
  · rw [h1 74 (by omega) (by omega), hu 5 (by omega) (by omega)]; exact a13
  · rw [h1 72 (by omega) (by omega)]; exact a14
  · rw [h1 73 (by omega) (by omega)]; exact a15
def sX2_begin : bt_Sp := fun as M N K => match as with
  | [.ref c, .int l, .int n] => ∃ k : Nat, k < 4 ∧ c = (41 + 2 * k : Nat) ∧ ∀ M', (∀ x : Nat, x ≠ 41 + 2 * k → x ≠ 42 + 2 * k → M' x = M x) → M' (41 + 2 * k) 1 = l → M' (41 + 2 * k) 2 = n → (∀ j, j < 40 → M' (42 + 2 * k) j = 0) → K none M' N
  | _ => False
set_option maxRecDepth 100000 in
theorem mX2_begin : bt_MT bt_TX2_begin bt_FX2 [] 0 4 sX2_begin := by
  intro as M N Rt h P hP
  unfold sX2_begin at h
  split at h
  · next c0 l n =>
    obtain ⟨k, hk, hc0, h⟩ := h
    obtain ⟨c, rfl⟩ : ∃ c : Nat, c = c0 := ⟨c0, rfl⟩
    have hc : c = 41 + 2 * k := hc0
    have e1 : 42 + 2 * k = c + 1 := by omega
    rw [e1] at h
    rw [← hc] at h
    have hcc : c = 41 ∨ c = 43 ∨ c = 45 ∨ c = 47 := by omega
    clear hc hc0 e1 hk
    have loop : ∀ v pc L st M' N', (pc = 12 ∧ st = [] ∧ N' = N ∧ ∃ k, k ≤ 40 ∧ v = 40 - k ∧ L = [some (.ref c), some (.int l), some (.int n), some (.int (nI k))] ∧ (∀ x : Nat, x ≠ c → x ≠ c + 1 → M' x = M x) ∧ M' c 1 = l ∧ M' c 2 = n ∧ ∀ j : Nat, j < k → M' (c + 1) j = 0) → P pc L st M' N' := by
      refine bt_loop rfl hP 60 [12] (fun v pc L st M' N' => (pc = 12 ∧ st = [] ∧ N' = N ∧ ∃ k, k ≤ 40 ∧ v = 40 - k ∧ L = [some (.ref c), some (.int l), some (.int n), some (.int (nI k))] ∧ (∀ x : Nat, x ≠ c → x ≠ c + 1 → M' x = M x) ∧ M' c 1 = l ∧ M' c 2 = n ∧ ∀ j : Nat, j < k → M' (c + 1) j = 0)) ?_
      rintro v pc L st M' N' ⟨rfl, rfl, rfl, k, hk, rfl, rfl, q1, q2, q3, q4⟩
      rcases hcc with rfl | rfl | rfl | rfl
      all_goals
        refine ⟨fun z => ?_, fun z => ?_⟩
        · rw [bt_lit, nI_leI (by omega) (by omega)] at z
          exact h M' q1 q2 q3 (fun j hj => q4 j (by omega))
        · rw [bt_lit, nI_leI (by omega) (by omega)] at z
          refine ⟨_, rfl, k, rfl, by omega, ?_⟩
          rintro _ rfl
          refine ⟨40 - (k + 1), by omega, rfl, rfl, rfl, k + 1, by omega, rfl, by rw [← nI_1], fun x z1 z2 => ?_, ?_, ?_, fun j hj => ?_⟩
          · rw [bt_up_n (by omega)]; exact q1 x z1 z2
          · rw [bt_up_n (by omega)]; exact q2
          · rw [bt_up_n (by omega)]; exact q3
          · rw [bt_up_s]
            by_cases hjk : j = k
            · rw [hjk, pk_us]
            · rw [pk_un (by omega)]; exact q4 j (by omega)
    refine bt_go rfl hP 60 [12] P (fun _ _ _ _ _ h => h) ?_
    rcases hcc with rfl | rfl | rfl | rfl
    all_goals
      intro M1 e1 M2 e2
      refine loop _ _ _ _ _ _ ⟨rfl, rfl, rfl, 0, by omega, rfl, rfl, fun x z1 z2 => ?_, ?_, ?_, fun j hj => by omega⟩
      · rw [e2, bt_up_n z1, e1, bt_up_n z1]
      · rw [e2, bt_up_s, pk_un (by omega), e1, bt_up_s, pk_us]
      · rw [e2, bt_up_s, pk_us]
  · exact False.elim h
def bt_CX2_faultAt : bt_C := [(22, 0, 3, sX5_within)]
def sX2_faultAt : bt_Sp := fun as M N K => match as with
  | [.ref c, .int l, .int i] => ∃ (k n l' : Nat), k < 4 ∧ c = (41 + 2 * k : Nat) ∧ n ≤ 41 ∧ M (41 + 2 * k) 2 = nI n - 1 ∧ M (41 + 2 * k) 1 = nI l' ∧ K (some (.int (nI (bt_fa n l' l i)))) M N
  | _ => False
theorem bt_pr {n : Nat} (h : 1 ≤ n) : nI n - 1 = nI (n - 1) := by
  obtain ⟨m, rfl⟩ : ∃ m, n = m + 1 := ⟨n - 1, by omega⟩
  rw [nI_pred]; rfl
theorem bt_pr0 : ∀ n, n < 42 → (0 ≤ nI n - 1 ↔ ¬ n = 0) := by decide +kernel
set_option maxRecDepth 100000 in
theorem mX2_faultAt : bt_MT bt_TX2_faultAt bt_FX2 bt_CX2_faultAt 1 3 sX2_faultAt := by
  intro as M N Rt h P hP
  unfold sX2_faultAt at h
  split at h
  · next c0 l i =>
    obtain ⟨k, n, l', hk, hc0, hn, h2, h1, h⟩ := h
    obtain ⟨c, rfl⟩ : ∃ c : Nat, c = c0 := ⟨c0, rfl⟩
    have hc : c = 41 + 2 * k := hc0
    rw [← hc] at h1 h2
    have hcc : c = 41 ∨ c = 43 ∨ c = 45 ∨ c = 47 := by omega
    clear hc hc0 hk
    unfold bt_fa at h
    refine bt_go0 rfl hP 60 ?_
    rcases hcc with rfl | rfl | rfl | rfl
    all_goals
      refine ⟨fun y => ?_, fun y => ?_⟩
      · rw [h2, bt_pr0 n (by omega)] at y
        rw [if_neg y] at h
        refine ⟨fun y2 => ?_, fun y2 => ?_⟩
        · rw [h1] at y2
          rw [if_pos y2] at h
          refine ⟨fun y3 => ?_, fun y3 => ?_⟩
          · rw [bt_bi_0, h2, bt_pr (by omega), bt_in_last (by omega)] at y3
            rw [if_neg y3] at h
            exact h
          · rw [bt_bi_n0, h2, bt_pr (by omega), bt_in_last (by omega)] at y3
            rw [if_pos y3] at h
            exact h
        · rw [h1] at y2
          rw [if_neg y2] at h
          exact h
      · rw [h2, bt_pr0 n (by omega)] at y
        rw [if_pos (by omega)] at h
        exact h
  · exact False.elim h
def sX2_put : bt_Sp := fun as M N K => match as with
  | [.ref c, .int i, .int v] => ∃ (k i' l : Nat), k < 4 ∧ c = (41 + 2 * k : Nat) ∧ i = nI i' ∧ i' < 40 ∧ M (41 + 2 * k) 1 = nI l ∧ l ≤ 2 ∧ ∀ M', M' = va_up M (42 + 2 * k) (upd (M (42 + 2 * k)) i' (bt_cv l v)) → K none M' N
  | _ => False
theorem bt_l012 : ∀ l, l < 3 → (nI l = 0 ↔ l = 0) ∧ (nI l = 1 ↔ l = 1) := by decide +kernel
set_option maxRecDepth 100000 in
theorem mX2_put : bt_MT bt_TX2_put bt_FX2 [] 0 3 sX2_put := by
  intro as M N Rt h P hP
  unfold sX2_put at h
  split at h
  · next c0 i v =>
    obtain ⟨k, i', l, hk, hc0, rfl, hi, h1, hl, h⟩ := h
    obtain ⟨c, rfl⟩ : ∃ c : Nat, c = c0 := ⟨c0, rfl⟩
    have hc : c = 41 + 2 * k := hc0
    have e1 : 42 + 2 * k = c + 1 := by omega
    rw [e1] at h
    rw [← hc] at h1
    have hcc : c = 41 ∨ c = 43 ∨ c = 45 ∨ c = 47 := by omega
    clear hc hc0 hk e1
    have hl2 := bt_l012 l (by omega)
    unfold bt_cv at h
    refine bt_go0 rfl hP 60 ?_
    rcases hcc with rfl | rfl | rfl | rfl
    all_goals
      refine ⟨fun y => ?_, fun y => ?_⟩
      · rw [h1, hl2.1] at y
        rw [if_neg y] at h
        refine ⟨fun y2 => ?_, fun y2 => ?_⟩
        · rw [h1, hl2.2] at y2
          rw [if_neg y2] at h
          exact ⟨_, rfl, i', rfl, hi, fun M' e => h M' e⟩
        · rw [h1, hl2.2] at y2
          rw [if_pos y2] at h
          exact ⟨_, rfl, i', rfl, hi, fun M' e => h M' e⟩
      · rw [h1, hl2.1] at y
        rw [if_pos y] at h
        exact ⟨_, rfl, i', rfl, hi, fun M' e => h M' e⟩
  · exact False.elim h

def f_sheet : bt_fn := fun t S => match t, S with
  | [.int k, .int l, .int n], (w, im, u, z, q) => some (.int (if (bt_in k 4 ∧ bt_in l 3 ∧ n ≤ 40) then (if (0 : Int32) ≤ n then 1 else -14) else -1), (w, im, if ((bt_in k 4 ∧ bt_in l 3 ∧ n ≤ 40) ∧ (0 : Int32) ≤ n) then va_up (va_up u (6 + k.toNatClampNeg) (n.toNatClampNeg + 1)) (10 + k.toNatClampNeg) l.toNatClampNeg else u, z, if ((bt_in k 4 ∧ bt_in l 3 ∧ n ≤ 40) ∧ (0 : Int32) ≤ n) then va_up q k.toNatClampNeg (fun _ => 0) else q))
  | _, _ => none

def bt_CX5_sheet : bt_C := [(262, 0, 1, sX5_isSheet), (265, 0, 1, sX5_isLane), (268, 1, 3, sX2_begin)]
def sX5_sheet : bt_Sp := bt_spC f_sheet
set_option maxRecDepth 100000 in
theorem mX5_sheet : bt_MT bt_TX5_sheet bt_FX5 bt_CX5_sheet 1 4 sX5_sheet := by
  intro as M N Rt h P hP
  obtain ⟨t, S, r, S', rfl, hI, hf, h⟩ := bt_spC_e h
  obtain ⟨w, im, u, z, q⟩ := S
  unfold f_sheet at hf
  split at hf
  · next k l n _ _ _ _ _ e =>
    cases e
    obtain ⟨rfl, rfl⟩ := bt_some hf
    obtain ⟨a1, a2, a3, a4, a5, a6, a7, a8, a9, a10, a11, a12⟩ := id hI
    obtain ⟨b0, b1, b2, b3, b4, b5, b6, b7, b8, b9, b10⟩ := id a2
    obtain ⟨hw, h8, h9, h10, h11, h12, h13, h14, h15, h16, h17, r1, r2, r3, r4, r5, r6, r7, r8⟩ := id a1
    obtain ⟨f1, f2, f3, f4, f5, f6, f7, f8, f9, f10, f11, f12, f13, f14, f15, f16, f17, f18⟩ := id hw
    have hbad : ¬ (bt_in k 4 ∧ bt_in l 3 ∧ n ≤ 40) → Rt (some (.int (-1))) M N := fun y => by
      have nok : ¬ ((bt_in k 4 ∧ bt_in l 3 ∧ n ≤ 40) ∧ (0 : Int32) ≤ n) := fun c => y c.1
      rw [if_neg y, if_neg nok, if_neg nok] at h
      exact h M N (fun _ _ => rfl) hI
    have hbad2 : (bt_in k 4 ∧ bt_in l 3 ∧ n ≤ 40) → ¬ (0 : Int32) ≤ n → Rt (some (.int (-14))) M N := fun y y2 => by
      have nok : ¬ ((bt_in k 4 ∧ bt_in l 3 ∧ n ≤ 40) ∧ (0 : Int32) ≤ n) := fun c => y2 c.2
      rw [if_pos y, if_neg y2, if_neg nok, if_neg nok] at h
      exact h M N (fun _ _ => rfl) hI
    refine bt_go0 rfl hP 60 ?_
    refine ⟨fun y => hbad (fun c => (bt_bi_0.mp y) c.1), fun y => ⟨fun y2 => hbad (fun c => (bt_bi_0.mp y2) c.2.1), fun y2 => ⟨fun y3 => ?_, fun y3 => hbad (fun c => y3 c.2.2)⟩⟩⟩
    have ok : (bt_in k 4 ∧ bt_in l 3 ∧ n ≤ 40) := ⟨bt_bi_n0.mp y, bt_bi_n0.mp y2, y3⟩
    refine ⟨fun y4 => ?_, fun y4 => hbad2 ok y4⟩
    · have ok2 : ((bt_in k 4 ∧ bt_in l 3 ∧ n ≤ 40) ∧ (0 : Int32) ≤ n) := ⟨ok, y4⟩
      rw [if_pos ok, if_pos y4, if_pos ok2, if_pos ok2] at h
      obtain ⟨k, hk, rfl⟩ := bt_in_e ok.1
      obtain ⟨l, hl, rfl⟩ := bt_in_e ok.2.1
      obtain ⟨n, hn, rfl⟩ := bt_in_e (n := 41) ((bt_in_c (k := 40) rfl (by omega)).mp ⟨y4, y3⟩)
      rw [bt_clm (by omega), bt_clm (by omega), bt_clm (by omega)] at h
      have hu6 : va_up (va_up u (6 + k) (n + 1)) (10 + k) l (6 + k) = n + 1 := by rw [bt_up_n (by omega), bt_up_s]
      have hu10 : va_up (va_up u (6 + k) (n + 1)) (10 + k) l (10 + k) = l := by rw [bt_up_s]
      have hun : ∀ i, i ≠ 6 + k → i ≠ 10 + k → va_up (va_up u (6 + k) (n + 1)) (10 + k) l i = u i := fun i i1 i2 => by rw [bt_up_n i2, bt_up_n i1]
      refine ⟨_, rfl, k, rfl, hk, ?_⟩
      refine ⟨k, hk, bt_rf40 k hk, fun M' e1 e2 e3 e4 => ?_⟩
      exact h M' N (fun x hx => e1 x (by omega) (by omega)) (bt_cI_sh (k := k) hI hk hun (by rw [hu6]; omega) (by rw [hu10]; omega) (fun i hi => bt_up_n hi) e1 (by rw [hu6, nI_pred]; exact e3) (by rw [hu10]; exact e2) (fun j hj => by rw [bt_up_s]; exact e4 j hj))
  · cases hf

def bt_CX6_sheet : bt_C := [(46, 0, 3, sX6_in)]
def sX6_sheet : bt_Sp := bt_spM f_sheet
set_option maxRecDepth 100000 in
theorem mX6_sheet : bt_MT bt_TX6_sheet bt_FX6 bt_CX6_sheet 1 5 sX6_sheet := by
  intro as M N Rt h P hP
  obtain ⟨t, S, r, S', rfl, hI, hf, h⟩ := bt_spM_e h
  obtain ⟨w, im, u, z, q⟩ := S
  unfold f_sheet at hf
  split at hf
  · next k l n _ _ _ _ _ e =>
    cases e
    obtain ⟨rfl, rfl⟩ := bt_some hf
    obtain ⟨a1, a2, a3, a4, a5, a6, a7, a8, a9, a10, a11, a12, a13, a14, a15⟩ := id hI
    obtain ⟨b0, b1, b2, b3, b4, b5, b6, b7, b8, b9, b10⟩ := id a2
    obtain ⟨hw, g1, g2, g3, g4, g5, g6, r0, r1, r2, r3, r4, r5, r6, c7, c8, c9, c10, c11⟩ := id a1
    obtain ⟨f1, f2, f3, f4, f5, f6, f7, f8, f9, f10, f11, f12, f13, f14, f15, f16, f17, f18⟩ := id hw
    simp only [Nat.zero_add] at g3 g4 g5 g6 r0 r1 r2 r3 r4 r5 r6 c7 c8 c9 c10
    have hbad : ¬ (bt_in k 4 ∧ bt_in l 3 ∧ n ≤ 40) → Rt (some (.int (-1))) M N := fun y => by
      have nok : ¬ ((bt_in k 4 ∧ bt_in l 3 ∧ n ≤ 40) ∧ (0 : Int32) ≤ n) := fun c => y c.1
      rw [if_neg y, if_neg nok, if_neg nok] at h
      exact h M (fun _ _ => rfl) hI
    have hbad2 : (bt_in k 4 ∧ bt_in l 3 ∧ n ≤ 40) → ¬ (0 : Int32) ≤ n → Rt (some (.int (-14))) M N := fun y y2 => by
      have nok : ¬ ((bt_in k 4 ∧ bt_in l 3 ∧ n ≤ 40) ∧ (0 : Int32) ≤ n) := fun c => y2 c.2
      rw [if_pos y, if_neg y2, if_neg nok, if_neg nok] at h
      exact h M (fun _ _ => rfl) hI
    refine bt_go rfl hP 60 [56] P (fun _ _ _ _ _ h => h) ?_
    refine ⟨fun y => ?_, fun y => ⟨fun y2 => ?_, fun y2 => ⟨fun y3 => ?_, fun y3 => hbad (fun c => y3 c.2.2)⟩⟩⟩
    · rw [bt_bi_0, bt_inl_c (k := 3) (show (3 : Int64) = lN 3 from rfl) (by omega)] at y
      exact hbad (fun c => y c.1)
    · rw [bt_bi_0, bt_inl_c (k := 2) (show (2 : Int64) = lN 2 from rfl) (by omega)] at y2
      exact hbad (fun c => y2 c.2.1)
    rw [bt_bi_n0, bt_inl_c (k := 3) (show (3 : Int64) = lN 3 from rfl) (by omega)] at y
    rw [bt_bi_n0, bt_inl_c (k := 2) (show (2 : Int64) = lN 2 from rfl) (by omega)] at y2
    have ok : (bt_in k 4 ∧ bt_in l 3 ∧ n ≤ 40) := ⟨y, y2, y3⟩
    refine ⟨fun y4 => ?_, fun y4 => hbad2 ok y4⟩
    · have ok2 : ((bt_in k 4 ∧ bt_in l 3 ∧ n ≤ 40) ∧ (0 : Int32) ≤ n) := ⟨ok, y4⟩
      rw [if_pos ok, if_pos y4, if_pos ok2, if_pos ok2] at h
      obtain ⟨k, hk, rfl⟩ := bt_in_e ok.1
      obtain ⟨l, hl, rfl⟩ := bt_in_e ok.2.1
      obtain ⟨n, hn, rfl⟩ := bt_in_e (n := 41) ((bt_in_c (k := 40) rfl (by omega)).mp ⟨y4, y3⟩)
      rw [bt_clm (by omega), bt_clm (by omega), bt_clm (by omega)] at h
      have hu6 : va_up (va_up u (6 + k) (n + 1)) (10 + k) l (6 + k) = n + 1 := by rw [bt_up_n (by omega), bt_up_s]
      have hu10 : va_up (va_up u (6 + k) (n + 1)) (10 + k) l (10 + k) = l := by rw [bt_up_s]
      have hun : ∀ i, i ≠ 6 + k → i ≠ 10 + k → va_up (va_up u (6 + k) (n + 1)) (10 + k) l i = u i := fun i i1 i2 => by rw [bt_up_n i2, bt_up_n i1]
      refine ⟨_, rfl, k, rfl, hk, fun M1 e1 => ?_⟩
      refine ⟨_, rfl, k, rfl, hk, fun M2 e2 => ?_⟩
      have q76 : M2 76 = upd (M 76) k (nI l) := by rw [e2, bt_up_n (by omega), e1, bt_up_s]
      have q77 : M2 77 = upd (M 77) k (nI n) := by rw [e2, bt_up_s, e1, bt_up_n (by omega)]
      have qx : ∀ x : Nat, x ≠ 76 → x ≠ 77 → M2 x = M x := fun x x1 x2 => by rw [e2, bt_up_n x2, e1, bt_up_n x1]
      have loop : ∀ v pc L st M' N', (pc = 56 ∧ st = [] ∧ N' = N ∧ ∃ i, i ≤ 40 ∧ v = 40 - i ∧ L = [some (.ref 67), some (.int (nI k)), some (.int (nI l)), some (.int (nI n)), some (.int (nI i))] ∧ (∀ x : Nat, x ≠ 78 → M' x = M2 x) ∧ (∀ j : Nat, j < i → M' 78 (40 * k + j) = 0) ∧ ∀ j, (j < 40 * k ∨ 40 * k + 40 ≤ j) → M' 78 j = M2 78 j) → P pc L st M' N' := by
        refine bt_loop rfl hP 60 [56] (fun v pc L st M' N' => (pc = 56 ∧ st = [] ∧ N' = N ∧ ∃ i, i ≤ 40 ∧ v = 40 - i ∧ L = [some (.ref 67), some (.int (nI k)), some (.int (nI l)), some (.int (nI n)), some (.int (nI i))] ∧ (∀ x : Nat, x ≠ 78 → M' x = M2 x) ∧ (∀ j : Nat, j < i → M' 78 (40 * k + j) = 0) ∧ ∀ j, (j < 40 * k ∨ 40 * k + 40 ≤ j) → M' 78 j = M2 78 j)) ?_
        rintro v pc L st M' N' ⟨rfl, rfl, rfl, i, hi, rfl, rfl, p1, p2, p3⟩
        refine ⟨fun z => ?_, fun z => ?_⟩
        · rw [bt_lit, nI_leI (by omega) (by omega)] at z
          refine h M' (fun x hx => by rw [p1 x (by omega), qx x (by omega) (by omega)]) (bt_mI_sh (k := k) hI hk hun (by rw [hu6]; omega) (by rw [hu10]; omega) (fun i hi => bt_up_n hi) (fun x x1 x2 => by rw [p1 x (by omega), qx x (by omega) (by omega)]) (fun i hi => by rw [p1 76 (by omega), q76, pk_un hi]) (fun i hi => by rw [p1 77 (by omega), q77, pk_un hi]) (fun j hj => by rw [p3 j hj, qx 78 (by omega) (by omega)]) ?_ (fun _ => ?_) (fun j hj => by rw [bt_up_s]; exact p2 j (by omega)))
          · rw [hu6, hu10, if_neg (by omega), p1 76 (by omega), q76, pk_us]
          · rw [hu6, p1 77 (by omega), q77, pk_us]; rfl
        · rw [bt_lit, nI_leI (by omega) (by omega)] at z
          refine ⟨_, rfl, 40 * k + i, by simp only [bt_lit, pk_mul, nI_add], by omega, ?_⟩
          rintro _ rfl
          refine ⟨40 - (i + 1), by omega, rfl, rfl, rfl, i + 1, by omega, rfl, by rw [← nI_1], fun x z1 => ?_, fun j hj => ?_, fun j hj => ?_⟩
          · rw [bt_up_n z1]; exact p1 x z1
          · rw [bt_up_s]
            by_cases hji : j = i
            · rw [hji, pk_us]
            · rw [pk_un (by omega)]; exact p2 j (by omega)
          · rw [bt_up_s, pk_un (by omega)]; exact p3 j hj
      exact loop _ _ _ _ _ _ ⟨rfl, rfl, rfl, 0, by omega, rfl, rfl, fun _ _ => rfl, fun j hj => by omega, fun _ _ => rfl⟩
  · cases hf
end
section
/-! CALLS, BOTH SIDES: cells of sheets, reading -/

theorem bt_l4 : ∀ l, l < 3 → ¬ nI l = -4 := by decide +kernel

def f_lay : bt_fn := fun t S => match t, S with
  | [.int k, .int i, .int v], (w, im, u, z, q) => some (.int (if bt_in k 4 then (if u (6 + k.toNatClampNeg) = 0 then -11 else if bt_in i (u (6 + k.toNatClampNeg) - 1) then 1 else -12) else -1), (w, im, u, z, if (bt_in k 4 ∧ bt_in i (u (6 + k.toNatClampNeg) - 1)) then va_up q k.toNatClampNeg (upd (q k.toNatClampNeg) i.toNatClampNeg (bt_cv (u (10 + k.toNatClampNeg)) v)) else q))
  | _, _ => none

def bt_CX5_lay : bt_C := [(262, 0, 1, sX5_isSheet), (275, 1, 3, sX2_faultAt), (278, 1, 3, sX2_put)]
def sX5_lay : bt_Sp := bt_spC f_lay
set_option maxRecDepth 100000 in
theorem mX5_lay : bt_MT bt_TX5_lay bt_FX5 bt_CX5_lay 1 6 sX5_lay := by
  intro as M N Rt h P hP
  obtain ⟨t, S, r, S', rfl, hI, hf, h⟩ := bt_spC_e h
  obtain ⟨w, im, u, z, q⟩ := S
  unfold f_lay at hf
  split at hf
  · next k i v _ _ _ _ _ e =>
    cases e
    obtain ⟨rfl, rfl⟩ := bt_some hf
    obtain ⟨a1, a2, a3, a4, a5, a6, a7, a8, a9, a10, a11, a12⟩ := id hI
    obtain ⟨b0, b1, b2, b3, b4, b5, b6, b7, b8, b9, b10⟩ := id a2
    obtain ⟨hw, h8, h9, h10, h11, h12, h13, h14, h15, h16, h17, r1, r2, r3, r4, r5, r6, r7, r8⟩ := id a1
    obtain ⟨f1, f2, f3, f4, f5, f6, f7, f8, f9, f10, f11, f12, f13, f14, f15, f16, f17, f18⟩ := id hw
    refine bt_go0 rfl hP 60 ?_
    refine ⟨fun y => ?_, fun y => ?_⟩
    · rw [bt_bi_n0] at y
      obtain ⟨k, hk, rfl⟩ := bt_in_e y
      rw [if_pos y, bt_clm (by omega)] at h
      obtain ⟨s2, s1, s4⟩ := a10 k hk
      obtain ⟨l1, l2⟩ := b7 k hk
      have s1' : M (bt_rf 40 k) 1 = nI (u (10 + k)) := by rw [bt_rf40 k hk]; exact s1
      have hfa : bt_fa (u (6 + k)) (u (10 + k)) (M (bt_rf 40 k) 1) i = if u (6 + k) = 0 then 1 else if bt_in i (u (6 + k) - 1) then 0 else 2 := by
        unfold bt_fa
        rw [if_pos s1']
      have hput : ∀ i', i = nI i' → i' < u (6 + k) - 1 → ∀ M', M' = va_up M (42 + 2 * k) (upd (M (42 + 2 * k)) i' (bt_cv (u (10 + k)) v)) → Rt (some (.int 1)) M' N := by
        rintro i' rfl hi M' e
        have z2 : bt_in (nI i') (u (6 + k) - 1) := (bt_in_nI (by omega)).mpr hi
        rw [if_neg (show ¬ u (6 + k) = 0 by omega), if_pos z2, if_pos ⟨y, z2⟩, bt_clm (by omega)] at h
        refine h M' N (fun x hx => by rw [e, bt_up_n (by omega)]) (bt_cI_sh (k := k) hI hk (fun _ _ _ => rfl) l1 l2 (fun i hi => bt_up_n hi) (fun x x1 x2 => by rw [e, bt_up_n x2]) (by rw [e, bt_up_n (by omega)]; exact s2) (by rw [e, bt_up_n (by omega)]; exact s1) (fun j hj => ?_))
        rw [e, bt_up_s, bt_up_s]
        by_cases hj2 : j = i'
        · rw [hj2, pk_us, pk_us]
        · rw [pk_un hj2, pk_un hj2]; exact s4 j hj
      have hbad1 : u (6 + k) = 0 → Rt (some (.int (-11))) M N := fun z1 => by
        have nz : ¬ (bt_in (nI k) 4 ∧ bt_in i (u (6 + k) - 1)) := fun c => by
          obtain ⟨d1, d2⟩ := c.2
          rw [z1] at d2
          omega
        rw [if_pos z1, if_neg nz] at h
        exact h M N (fun _ _ => rfl) hI
      have hbad2 : ¬ u (6 + k) = 0 → ¬ bt_in i (u (6 + k) - 1) → Rt (some (.int (-12))) M N := fun z1 z2 => by
        rw [if_neg z1, if_neg z2, if_neg (fun c => z2 c.2)] at h
        exact h M N (fun _ _ => rfl) hI
      clear h
      refine ⟨_, rfl, k, rfl, hk, ?_⟩
      obtain rfl | rfl | rfl | rfl : k = 0 ∨ k = 1 ∨ k = 2 ∨ k = 3 := by omega
      · refine ⟨_, _, _, hk, rfl, l1, s2, s1, ?_⟩
        by_cases z1 : u (6 + 0) = 0
        · rw [if_pos z1] at hfa
          refine ⟨fun y2 => ?_, fun _ => ?_⟩
          · rw [hfa] at y2
            exact absurd y2 (by decide)
          · rw [hfa]
            exact hbad1 z1
        · rw [if_neg z1] at hfa
          by_cases z2 : bt_in i (u (6 + 0) - 1)
          · rw [if_pos z2] at hfa
            refine ⟨fun _ => ?_, fun y2 => ?_⟩
            · obtain ⟨i', hi, rfl⟩ := bt_in_e z2
              exact ⟨_, i', _, hk, rfl, rfl, by omega, s1, l2, fun M' e => hput i' rfl hi M' e⟩
            · rw [hfa] at y2
              exact absurd rfl y2
          · rw [if_neg z2] at hfa
            refine ⟨fun y2 => ?_, fun _ => ?_⟩
            · rw [hfa] at y2
              exact absurd y2 (by decide)
            · rw [hfa]
              exact hbad2 z1 z2
      · refine ⟨_, _, _, hk, rfl, l1, s2, s1, ?_⟩
        by_cases z1 : u (6 + 1) = 0
        · rw [if_pos z1] at hfa
          refine ⟨fun y2 => ?_, fun _ => ?_⟩
          · rw [hfa] at y2
            exact absurd y2 (by decide)
          · rw [hfa]
            exact hbad1 z1
        · rw [if_neg z1] at hfa
          by_cases z2 : bt_in i (u (6 + 1) - 1)
          · rw [if_pos z2] at hfa
            refine ⟨fun _ => ?_, fun y2 => ?_⟩
            · obtain ⟨i', hi, rfl⟩ := bt_in_e z2
              exact ⟨_, i', _, hk, rfl, rfl, by omega, s1, l2, fun M' e => hput i' rfl hi M' e⟩
            · rw [hfa] at y2
              exact absurd rfl y2
          · rw [if_neg z2] at hfa
            refine ⟨fun y2 => ?_, fun _ => ?_⟩
            · rw [hfa] at y2
              exact absurd y2 (by decide)
            · rw [hfa]
              exact hbad2 z1 z2
      · refine ⟨_, _, _, hk, rfl, l1, s2, s1, ?_⟩
        by_cases z1 : u (6 + 2) = 0
        · rw [if_pos z1] at hfa
          refine ⟨fun y2 => ?_, fun _ => ?_⟩
          · rw [hfa] at y2
            exact absurd y2 (by decide)
          · rw [hfa]
            exact hbad1 z1
        · rw [if_neg z1] at hfa
          by_cases z2 : bt_in i (u (6 + 2) - 1)
          · rw [if_pos z2] at hfa
            refine ⟨fun _ => ?_, fun y2 => ?_⟩
            · obtain ⟨i', hi, rfl⟩ := bt_in_e z2
              exact ⟨_, i', _, hk, rfl, rfl, by omega, s1, l2, fun M' e => hput i' rfl hi M' e⟩
            · rw [hfa] at y2
              exact absurd rfl y2
          · rw [if_neg z2] at hfa
            refine ⟨fun y2 => ?_, fun _ => ?_⟩
            · rw [hfa] at y2
              exact absurd y2 (by decide)
            · rw [hfa]
              exact hbad2 z1 z2
      · refine ⟨_, _, _, hk, rfl, l1, s2, s1, ?_⟩
        by_cases z1 : u (6 + 3) = 0
        · rw [if_pos z1] at hfa
          refine ⟨fun y2 => ?_, fun _ => ?_⟩
          · rw [hfa] at y2
            exact absurd y2 (by decide)
          · rw [hfa]
            exact hbad1 z1
        · rw [if_neg z1] at hfa
          by_cases z2 : bt_in i (u (6 + 3) - 1)
          · rw [if_pos z2] at hfa
            refine ⟨fun _ => ?_, fun y2 => ?_⟩
            · obtain ⟨i', hi, rfl⟩ := bt_in_e z2
              exact ⟨_, i', _, hk, rfl, rfl, by omega, s1, l2, fun M' e => hput i' rfl hi M' e⟩
            · rw [hfa] at y2
              exact absurd rfl y2
          · rw [if_neg z2] at hfa
            refine ⟨fun y2 => ?_, fun _ => ?_⟩
            · rw [hfa] at y2
              exact absurd y2 (by decide)
            · rw [hfa]
              exact hbad2 z1 z2
    · rw [bt_bi_0] at y
      rw [if_neg y, if_neg (fun c => y c.1)] at h
      exact h M N (fun _ _ => rfl) hI
  · cases hf

def bt_CX6_lay : bt_C := [(46, 0, 3, sX6_in)]
def sX6_lay : bt_Sp := bt_spM f_lay
set_option maxRecDepth 100000 in
theorem mX6_lay : bt_MT bt_TX6_lay bt_FX6 bt_CX6_lay 1 4 sX6_lay := by
  intro as M N Rt h P hP
  obtain ⟨t, S, r, S', rfl, hI, hf, h⟩ := bt_spM_e h
  obtain ⟨w, im, u, z, q⟩ := S
  unfold f_lay at hf
  split at hf
  · next k i v _ _ _ _ _ e =>
    cases e
    obtain ⟨rfl, rfl⟩ := bt_some hf
    obtain ⟨a1, a2, a3, a4, a5, a6, a7, a8, a9, a10, a11, a12, a13, a14, a15⟩ := id hI
    obtain ⟨b0, b1, b2, b3, b4, b5, b6, b7, b8, b9, b10⟩ := id a2
    obtain ⟨hw, g1, g2, g3, g4, g5, g6, r0, r1, r2, r3, r4, r5, r6, c7, c8, c9, c10, c11⟩ := id a1
    obtain ⟨f1, f2, f3, f4, f5, f6, f7, f8, f9, f10, f11, f12, f13, f14, f15, f16, f17, f18⟩ := id hw
    simp only [Nat.zero_add] at g3 g4 g5 g6 r0 r1 r2 r3 r4 r5 r6 c7 c8 c9 c10
    refine bt_go0 rfl hP 60 ?_
    refine ⟨fun y => ?_, fun y => ?_⟩
    · rw [bt_bi_n0, bt_inl_c (k := 3) (show (3 : Int64) = lN 3 from rfl) (by omega)] at y
      obtain ⟨k, hk, rfl⟩ := bt_in_e y
      rw [if_pos y, bt_clm (by omega)] at h
      obtain ⟨s2, s1, s4⟩ := a11 k hk
      obtain ⟨l1, l2⟩ := b7 k hk
      refine ⟨_, rfl, k, rfl, hk, ⟨fun y2 => ?_, fun y2 => ?_⟩⟩
      · have z1 : ¬ u (6 + k) = 0 := fun c => y2 (by rw [s2, if_pos c])
        rw [if_neg z1] at s2 h
        have s1 := s1 z1
        refine ⟨_, rfl, k, rfl, hk, ⟨fun y3 => ?_, fun y3 => ?_⟩⟩
        · rw [bt_bi_n0, s1, bt_inl_last (by omega)] at y3
          rw [if_pos y3, if_pos ⟨y, y3⟩] at h
          obtain ⟨i, hi, rfl⟩ := bt_in_e y3
          rw [bt_clm (by omega)] at h
          have hput : ∀ M', M' = va_up M 78 (upd (M 78) (40 * k + i) (bt_cv (u (10 + k)) v)) → Rt (some (.int 1)) M' N := fun M' e => by
            refine h M' (fun x hx => by rw [e, bt_up_n (by omega)]) (bt_mI_sh (k := k) hI hk (fun _ _ _ => rfl) l1 l2 (fun i hi => bt_up_n hi) (fun x x1 x2 => by rw [e, bt_up_n (by omega)]) (fun j hj => by rw [e, bt_up_n (by omega)]) (fun j hj => by rw [e, bt_up_n (by omega)]) (fun j hj => by rw [e, bt_up_s, pk_un (by omega)]) (by rw [if_neg z1, e, bt_up_n (by omega)]; exact s2) (fun _ => by rw [e, bt_up_n (by omega)]; exact s1) (fun j hj => ?_))
            rw [e, bt_up_s, bt_up_s]
            by_cases hj2 : j = i
            · rw [hj2, pk_us, pk_us]
            · rw [pk_un (by omega), pk_un hj2]; exact s4 j hj
          have hl2 := bt_l012 (u (10 + k)) (by omega)
          unfold bt_cv at hput
          refine ⟨_, rfl, k, rfl, hk, ⟨fun y4 => ?_, fun y4 => ?_⟩⟩
          · rw [s2, hl2.1] at y4
            rw [if_neg y4] at hput
            refine ⟨_, rfl, k, rfl, hk, ⟨fun y5 => ?_, fun y5 => ?_⟩⟩
            · rw [s2, hl2.2] at y5
              rw [if_neg y5] at hput
              exact ⟨_, rfl, 40 * k + i, by simp only [bt_lit, pk_mul, nI_add], by omega, fun M' e => hput M' e⟩
            · rw [s2, hl2.2] at y5
              rw [if_pos y5, ← bt_sx16] at hput
              exact ⟨_, rfl, 40 * k + i, by simp only [bt_lit, pk_mul, nI_add], by omega, fun M' e => hput M' e⟩
          · rw [s2, hl2.1] at y4
            rw [if_pos y4, ← bt_sx8] at hput
            exact ⟨_, rfl, 40 * k + i, by simp only [bt_lit, pk_mul, nI_add], by omega, fun M' e => hput M' e⟩
        · rw [bt_bi_0, s1, bt_inl_last (by omega)] at y3
          rw [if_neg y3, if_neg (fun c => y3 c.2)] at h
          exact h M (fun _ _ => rfl) hI
      · have z1 : u (6 + k) = 0 := by
          by_cases z1 : u (6 + k) = 0
          · exact z1
          · rw [s2, if_neg z1] at y2
            exact absurd y2 (bt_l4 _ (by omega))
        have nz : ¬ (bt_in (nI k) 4 ∧ bt_in i (u (6 + k) - 1)) := fun c => by
          obtain ⟨d1, d2⟩ := c.2
          rw [z1] at d2
          omega
        rw [if_pos z1, if_neg nz] at h
        exact h M (fun _ _ => rfl) hI
    · rw [bt_bi_0, bt_inl_c (k := 3) (show (3 : Int64) = lN 3 from rfl) (by omega)] at y
      rw [if_neg y, if_neg (fun c => y c.1)] at h
      exact h M (fun _ _ => rfl) hI
  · cases hf
end
section
/-! CALLS, BOTH SIDES: counts, reading a sheet -/
theorem bt_bcI : ∀ a, a < 2 → ∀ b, b < 2 → bt_bc (nI (a + 2 * b)) = nI (a + b) := by decide +kernel
theorem bt_pr0' : ∀ n, n < 42 → (0 ≤ nI n - 1 ↔ ¬ n = 0) := bt_pr0

def f_count : bt_fn := fun t S => match t, S with
  | [.int x], (w, im, u, z, q) => some (.int (if x = 0 then (nI (u 5)) else if x = 1 then (nI (u 3 + u 4)) else if x = 2 then (nI (u 0)) else if x = 3 then (if u 6 = 0 then -4 else nI (u 6 - 1)) else if x = 4 then (nI (bt_ct1 (w 11) (w 12 1))) else if x = 5 then (nI (bt_ml w (w 12 4) (w 12 0 - w 12 4))) else if x = 6 then (nI (bt_st w)) else -1), (w, im, u, z, q))
  | _, _ => none

def bt_CX5_count : bt_C := [(287, 0, 1, sJ6_bitCount_0f7a4), (295, 1, 1, sX4_milesLeft), (259, 1, 1, sX4_sumOfTimes)]
def sX5_count : bt_Sp := bt_spC f_count
set_option maxRecDepth 100000 in
theorem mX5_count : bt_MT bt_TX5_count bt_FX5 bt_CX5_count 1 2 sX5_count := by
  intro as M N Rt h P hP
  obtain ⟨t, S, r, S', rfl, hI, hf, h⟩ := bt_spC_e h
  obtain ⟨w, im, u, z, q⟩ := S
  unfold f_count at hf
  split at hf
  · next x _ _ _ _ _ e =>
    cases e
    obtain ⟨rfl, rfl⟩ := bt_some hf
    obtain ⟨a1, a2, a3, a4, a5, a6, a7, a8, a9, a10, a11, a12⟩ := id hI
    obtain ⟨b0, b1, b2, b3, b4, b5, b6, b7, b8, b9, b10⟩ := id a2
    obtain ⟨hw, h8, h9, h10, h11, h12, h13, h14, h15, h16, h17, r1, r2, r3, r4, r5, r6, r7, r8⟩ := id a1
    obtain ⟨f1, f2, f3, f4, f5, f6, f7, f8, f9, f10, f11, f12, f13, f14, f15, f16, f17, f18⟩ := id hw
    have key := h M N (fun _ _ => rfl) hI
    have s0 := a10 0 (by omega)
    simp only [Nat.add_zero, Nat.mul_zero] at s0
    have l1 := (b7 0 (by omega)).1
    simp only [Nat.add_zero] at l1
    refine bt_go0 rfl hP 40 ?_
    refine ⟨fun z0 => ?_, fun z0 => ⟨fun z1 => ?_, fun z1 => ⟨fun z2 => ?_, fun z2 => ⟨fun z3 => ?_, fun z3 => ⟨fun z4 => ?_, fun z4 => ⟨fun z5 => ?_, fun z5 => ⟨fun z6 => ?_, fun z6 => ?_⟩⟩⟩⟩⟩⟩⟩
    · rw [if_pos z0] at key
      rw [← a11] at key
      exact key
    · rw [if_neg z0, if_pos z1] at key
      rw [← bt_bcI (u 3) (by omega) (u 4) (by omega), ← a6] at key
      exact key
    · rw [if_neg z0, if_neg z1, if_pos z2] at key
      rw [← a3] at key
      exact key
    · rw [if_neg z0, if_neg z1, if_neg z2, if_pos z3] at key
      refine ⟨_, rfl, 0, rfl, by omega, ⟨fun y => ?_, fun y => ?_⟩⟩
      · have y2 := (bt_pr0 (u 6) (by omega)).mp (by rw [← s0.1]; exact y)
        rw [if_neg y2, ← bt_pr (by omega), ← s0.1] at key
        exact ⟨_, rfl, 0, rfl, by omega, key⟩
      · have y2 : u 6 = 0 := by
          by_cases c : u 6 = 0
          · exact c
          · exact absurd ((bt_pr0 (u 6) (by omega)).mpr c) (by rw [← s0.1]; exact y)
        rw [if_pos y2] at key
        exact key
    · rw [if_neg z0, if_neg z1, if_neg z2, if_neg z3, if_pos z4] at key
      rw [← bt_bc_mk f18 (by omega), ← h13] at key
      exact key
    · rw [if_neg z0, if_neg z1, if_neg z2, if_neg z3, if_neg z4, if_pos z5] at key
      exact ⟨w, Or.inl rfl, a1, key⟩
    · rw [if_neg z0, if_neg z1, if_neg z2, if_neg z3, if_neg z4, if_neg z5, if_pos z6] at key
      exact ⟨w, Or.inl rfl, a1, key⟩
    · rw [if_neg z0, if_neg z1, if_neg z2, if_neg z3, if_neg z4, if_neg z5, if_neg z6] at key
      exact key
  · cases hf

theorem bt_z01 {a : Nat} (h : a ≤ 1) : nI a = 0 ↔ a = 0 := by
  constructor
  · intro z
    exact (nI_eq (b := 0) (by omega) (by omega)).mp z
  · rintro rfl
    rfl

def bt_CX6_count : bt_C := [(146, 1, 2, sX6_pastOn), (181, 0, 1, sX6_bitsOf), (211, 1, 1, sX6_milesLeft), (208, 1, 2, sX6_timesOn)]
def sX6_count : bt_Sp := bt_spM f_count
set_option maxRecDepth 100000 in
theorem mX6_count : bt_MT bt_TX6_count bt_FX6 bt_CX6_count 1 2 sX6_count := by
  intro as M N Rt h P hP
  obtain ⟨t, S, r, S', rfl, hI, hf, h⟩ := bt_spM_e h
  obtain ⟨w, im, u, z, q⟩ := S
  unfold f_count at hf
  split at hf
  · next x _ _ _ _ _ e =>
    cases e
    obtain ⟨rfl, rfl⟩ := bt_some hf
    obtain ⟨a1, a2, a3, a4, a5, a6, a7, a8, a9, a10, a11, a12, a13, a14, a15⟩ := id hI
    obtain ⟨b0, b1, b2, b3, b4, b5, b6, b7, b8, b9, b10⟩ := id a2
    obtain ⟨hw, g1, g2, g3, g4, g5, g6, r0, r1, r2, r3, r4, r5, r6, c7, c8, c9, c10, c11⟩ := id a1
    obtain ⟨f1, f2, f3, f4, f5, f6, f7, f8, f9, f10, f11, f12, f13, f14, f15, f16, f17, f18⟩ := id hw
    simp only [Nat.zero_add] at g3 g4 g5 g6 r0 r1 r2 r3 r4 r5 r6 c7 c8 c9 c10
    have key := h M (fun _ _ => rfl) hI
    have s0 := a11 0 (by omega)
    simp only [Nat.add_zero, Nat.mul_zero] at s0
    have l1 := b7 0 (by omega)
    simp only [Nat.add_zero] at l1
    refine bt_go0 rfl hP 60 ?_
    refine ⟨fun z0 => ?_, fun z0 => ⟨fun z1 => ?_, fun z1 => ⟨fun z2 => ?_, fun z2 => ⟨fun z3 => ?_, fun z3 => ⟨fun z4 => ?_, fun z4 => ⟨fun z5 => ?_, fun z5 => ⟨fun z6 => ?_, fun z6 => ?_⟩⟩⟩⟩⟩⟩⟩
    · rw [if_pos z0] at key
      rw [← a12] at key
      exact key
    · rw [if_neg z0, if_pos z1] at key
      refine ⟨_, rfl, 0, rfl, by omega, ⟨fun y => ?_, fun y => ?_⟩⟩
      all_goals
        refine ⟨_, rfl, 1, rfl, by omega, ⟨fun y2 => ?_, fun y2 => ?_⟩⟩
        all_goals
          rw [a7, bt_z01 (by omega)] at y
          rw [a8, bt_z01 (by omega)] at y2
          first | rw [y] at key | rw [show u 3 = 1 by omega] at key
          first | rw [y2] at key | rw [show u 4 = 1 by omega] at key
          exact key
    · rw [if_neg z0, if_neg z1, if_pos z2] at key
      rw [← a3] at key
      exact key
    · rw [if_neg z0, if_neg z1, if_neg z2, if_pos z3] at key
      refine ⟨_, rfl, 0, rfl, by omega, ⟨fun y => ?_, fun y => ?_⟩⟩
      · have y2 : ¬ u 6 = 0 := fun c => y (by rw [s0.1, if_pos c])
        rw [if_neg y2, ← s0.2.1 y2] at key
        exact ⟨_, rfl, 0, rfl, by omega, key⟩
      · have y2 : u 6 = 0 := by
          by_cases c : u 6 = 0
          · exact c
          · rw [s0.1, if_neg c] at y
            exact absurd y (bt_l4 _ (by omega))
        rw [if_pos y2] at key
        exact key
    · rw [if_neg z0, if_neg z1, if_neg z2, if_neg z3, if_pos z4] at key
      refine ⟨0, w 12 1, w 11, rfl, rfl, by omega, g2, f2, f18, c11, ?_⟩
      rw [← bt_pc_mk f18 (by omega)] at key
      have hlt := bt_mk_lt f18 (w 12 1)
      have hle : 2 ^ w 12 1 ≤ 2 ^ 6 := Nat.pow_le_pow_right (by omega) f2
      exact ⟨_, rfl, by omega, key⟩
    · rw [if_neg z0, if_neg z1, if_neg z2, if_neg z3, if_neg z4, if_pos z5] at key
      exact ⟨w, rfl, a1, key⟩
    · rw [if_neg z0, if_neg z1, if_neg z2, if_neg z3, if_neg z4, if_neg z5, if_pos z6] at key
      exact ⟨0, w, rfl, rfl, by omega, a1, key⟩
    · rw [if_neg z0, if_neg z1, if_neg z2, if_neg z3, if_neg z4, if_neg z5, if_neg z6] at key
      exact key
  · cases hf

def bt_rd (n l : Nat) (l' fr : Int32) (qk : Nat → Int32) : Nat → Nat → bt_W → Nat × Nat × bt_W
  | 0, k, w => (0, k, w)
  | r + 1, k, w => if bt_fa n l l' (fr + nI k) = 0 then (if bt_in (qk (fr + nI k).toNatClampNeg) 10 ∧ w 12 4 < w 12 0 then bt_rd n l l' fr qk r (k + 1) (bt_dv w (qk (fr + nI k).toNatClampNeg).toNatClampNeg) else (4, k, w)) else (bt_fa n l l' (fr + nI k), k, w)
def bt_rs (u : Nat → Nat) (q : Nat → Nat → Int32) (w : bt_W) (k l fr c : Int32) : Nat × Nat × bt_W := bt_rd (u (6 + k.toNatClampNeg)) (u (10 + k.toNatClampNeg)) l fr (q k.toNatClampNeg) c.toNatClampNeg 0 w
theorem bt_fa_0 {n l : Nat} {l' i : Int32} : bt_fa n l l' i = 0 ↔ (¬ n = 0 ∧ l' = nI l ∧ bt_in i (n - 1)) := by
  unfold bt_fa
  by_cases h1 : n = 0
  · simp [h1]
  · by_cases h2 : l' = nI l
    · by_cases h3 : bt_in i (n - 1)
      · simp only [if_neg h1, if_pos h2, if_pos h3]
        exact ⟨fun _ => ⟨h1, h2, h3⟩, fun _ => trivial⟩
      · simp only [if_neg h1, if_pos h2, if_neg h3]
        exact ⟨fun c => absurd c (by decide), fun c => absurd c.2.2 h3⟩
    · simp only [if_neg h1, if_neg h2]
      exact ⟨fun c => absurd c (by decide), fun c => absurd c.2.1 h2⟩
theorem bt_fa_le {n l : Nat} {l' i : Int32} : bt_fa n l l' i ≤ 3 := by
  unfold bt_fa
  split
  · omega
  · split
    · split <;> omega
    · omega
theorem bt_fr_in {fr : Int32} {i m : Nat} (hi : i ≤ 20) (hm : m ≤ 40) : ((0 : Int64) ≤ fr.toInt64 + (nI i).toInt64 ∧ fr.toInt64 + (nI i).toInt64 ≤ (nI m - 1).toInt64) ↔ bt_in (fr + nI i) m := by
  have b1 : fr.toInt < 2 ^ 31 := Int32.toInt_lt fr
  have b2 : -2 ^ 31 ≤ fr.toInt := Int32.le_toInt fr
  have h1 : (fr.toInt64 + (nI i).toInt64).toInt = fr.toInt + i := by
    rw [Int64.toInt_add, Int32.toInt_toInt64, Int32.toInt_toInt64, nI_toInt (by omega), Int.bmod_def]
    split <;> omega
  have h2 : (fr + nI i).toInt = if fr.toInt + i < 2 ^ 31 then fr.toInt + i else fr.toInt + i - 2 ^ 32 := by
    rw [Int32.toInt_add, nI_toInt (by omega), Int.bmod_def]
    split <;> split <;> omega
  rw [Int64.le_iff_toInt_le, Int64.le_iff_toInt_le, h1, Int32.toInt_toInt64, bt_nI_sub1 (by omega)]
  unfold bt_in
  rw [h2]
  have h0 : (0 : Int64).toInt = 0 := by decide
  rw [h0]
  split <;> omega
theorem bt_cI_t {M M' : bt_M} {w : bt_W} {im : Nat → bt_W} {u : Nat → Nat} {z : Nat → Nat → Nat} {q : Nat → Nat → Int32} (h : bt_cI M (w, im, u, z, q)) {f : Nat} (hf : f ≤ 4) (h1 : ∀ x : Nat, x ≠ 0 → M' x = M x) (h0 : ∀ g, g ≠ 11 → M' 0 g = M 0 g) (h11 : M' 0 11 = nI f) : bt_cI M' (w, im, va_up u 2 f, z, q) := by
  obtain ⟨a1, a2, a3, a4, a5, a6, a7, a8, a9, a10, a11, a12⟩ := h
  obtain ⟨b0, b1, b2, b3, b4, b5, b6, b7, b8, b9, b10⟩ := a2
  refine ⟨bt_cW_kept a1 (fun x _ _ => h1 x (by omega)), ?_, ?_, ?_, ?_, ?_, ?_, ?_, ?_, ?_, ?_, ?_⟩
  · unfold bt_sW
    rw [bt_up_s, bt_un 0 (by omega), bt_un 1 (by omega), bt_un 3 (by omega), bt_un 4 (by omega), bt_un 5 (by omega)]
    exact ⟨b0, b1, b2, hf, b4, b5, b6, fun k hk => by rw [bt_un (6 + k) (by omega), bt_un (10 + k) (by omega)]; exact b7 k hk, b8, b9, b10⟩
  · rw [h0 8 (by omega), bt_un 0 (by omega)]; exact a3
  · rw [h1 1 (by omega), bt_un 0 (by omega)]; exact a4
  · rw [h0 9 (by omega), bt_un 1 (by omega)]; exact a5
  · rw [h0 10 (by omega), bt_un 3 (by omega), bt_un 4 (by omega)]; exact a6
  · rw [bt_up_s]; exact h11
  · rw [bt_un 3 (by omega)]; exact fun y => bt_cW_kept (a8 y) (fun x _ _ => h1 x (by omega))
  · rw [bt_un 4 (by omega)]; exact fun y => bt_cW_kept (a9 y) (fun x _ _ => h1 x (by omega))
  · intro k hk
    rw [h1 (41 + 2 * k) (by omega), h1 (42 + 2 * k) (by omega), bt_un (6 + k) (by omega), bt_un (10 + k) (by omega)]; exact a10 k hk
  · rw [h1 49 (by omega), bt_un 5 (by omega)]; exact a11
  · rw [h1 50 (by omega), h1 51 (by omega), bt_un 5 (by omega)]; exact a12
theorem bt_mI_t {M M' : bt_M} {w : bt_W} {im : Nat → bt_W} {u : Nat → Nat} {z : Nat → Nat → Nat} {q : Nat → Nat → Int32} (h : bt_mI M (w, im, u, z, q)) {f : Nat} (hf : f ≤ 4) (h1 : ∀ x : Nat, x ≠ 67 → M' x = M x) (h0 : ∀ g, g ≠ 26 → M' 67 g = M 67 g) (h26 : M' 67 26 = nI f) : bt_mI M' (w, im, va_up u 2 f, z, q) := by
  obtain ⟨a1, a2, a3, a4, a5, a6, a7, a8, a9, a10, a11, a12, a13, a14, a15⟩ := h
  obtain ⟨b0, b1, b2, b3, b4, b5, b6, b7, b8, b9, b10⟩ := a2
  have k12 : M' 67 1 = M 67 1 ∧ M' 67 2 = M 67 2 := ⟨h0 1 (by omega), h0 2 (by omega)⟩
  have k68 : M' 68 = M 68 := h1 68 (by omega)
  refine ⟨bt_mW_far a1 k12 k68, ?_, ?_, ?_, ?_, ?_, ?_, ?_, ?_, ?_, ?_, ?_, ?_, ?_, ?_⟩
  · unfold bt_sW
    rw [bt_up_s, bt_un 0 (by omega), bt_un 1 (by omega), bt_un 3 (by omega), bt_un 4 (by omega), bt_un 5 (by omega)]
    exact ⟨b0, b1, b2, hf, b4, b5, b6, fun k hk => by rw [bt_un (6 + k) (by omega), bt_un (10 + k) (by omega)]; exact b7 k hk, b8, b9, b10⟩
  · rw [h0 10 (by omega), bt_un 0 (by omega)]; exact a3
  · rw [h1 71 (by omega), bt_un 0 (by omega)]; exact a4
  · rw [h0 11 (by omega), bt_un 1 (by omega)]; exact a5
  · rw [bt_up_s]; exact h26
  · rw [h1 75 (by omega), bt_un 3 (by omega)]; exact a7
  · rw [h1 75 (by omega), bt_un 4 (by omega)]; exact a8
  · rw [bt_un 3 (by omega)]; exact fun y => bt_mW_far (a9 y) k12 k68
  · rw [bt_un 4 (by omega)]; exact fun y => bt_mW_far (a10 y) k12 k68
  · intro k hk
    rw [h1 76 (by omega), h1 77 (by omega), h1 78 (by omega), bt_un (6 + k) (by omega), bt_un (10 + k) (by omega)]; exact a11 k hk
  · rw [h0 21 (by omega), bt_un 5 (by omega)]; exact a12
  · rw [h1 74 (by omega), bt_un 5 (by omega)]; exact a13
  · rw [h1 72 (by omega)]; exact a14
  · rw [h1 73 (by omega)]; exact a15
end
section
/-! CALLS, BOTH SIDES: reading a sheet -/
theorem bt_rd_end {n l : Nat} {l' fr : Int32} {qk : Nat → Int32} {k : Nat} {w : bt_W} : bt_rd n l l' fr qk 0 k w = (0, k, w) := rfl
theorem bt_rd_f {n l : Nat} {l' fr : Int32} {qk : Nat → Int32} {r k : Nat} {w : bt_W} (h : ¬ bt_fa n l l' (fr + nI k) = 0) : bt_rd n l l' fr qk (r + 1) k w = (bt_fa n l l' (fr + nI k), k, w) := by
  rw [bt_rd, if_neg h]
theorem bt_rd_4 {n l : Nat} {l' fr : Int32} {qk : Nat → Int32} {r k a : Nat} {w : bt_W} (h : bt_fa n l l' (fr + nI k) = 0) (ha : fr + nI k = nI a) (ha2 : a < 2 ^ 31) (h2 : ¬ (bt_in (qk a) 10 ∧ w 12 4 < w 12 0)) : bt_rd n l l' fr qk (r + 1) k w = (4, k, w) := by
  rw [bt_rd, if_pos h, ha, bt_clm ha2, if_neg h2]
theorem bt_rd_s {n l : Nat} {l' fr : Int32} {qk : Nat → Int32} {r k a g : Nat} {w : bt_W} (h : bt_fa n l l' (fr + nI k) = 0) (ha : fr + nI k = nI a) (ha2 : a < 2 ^ 31) (hg : qk a = nI g) (hg2 : g < 10) (h2 : w 12 4 < w 12 0) : bt_rd n l l' fr qk (r + 1) k w = bt_rd n l l' fr qk r (k + 1) (bt_dv w g) := by
  have ok : bt_in (qk a) 10 ∧ w 12 4 < w 12 0 := ⟨by rw [hg]; exact (bt_in_nI (by omega)).mpr hg2, h2⟩
  rw [bt_rd, if_pos h, ha, bt_clm ha2, if_pos ok, hg, bt_clm (by omega)]

def f_read : bt_fn := fun t S => match t, S with
  | [.int k, .int l, .int fr, .int c], (w, im, u, z, q) => some (.int (if (bt_in k 4 ∧ bt_in l 3 ∧ bt_in c 21) then (if (bt_rs u q w k l fr c).1 = 4 then -20 - nI (bt_rs u q w k l fr c).2.1 else nI (bt_rs u q w k l fr c).2.1) else -1), (if ((bt_in k 4 ∧ bt_in l 3 ∧ bt_in c 21) ∧ ¬ (bt_rs u q w k l fr c).1 = 4) then (bt_rs u q w k l fr c).2.2 else w, im, if ((bt_in k 4 ∧ bt_in l 3 ∧ bt_in c 21) ∧ ¬ (bt_rs u q w k l fr c).1 = 4) then va_up u 2 (bt_rs u q w k l fr c).1 else u, z, q))
  | _, _ => none

set_option maxHeartbeats 1000000 in
def bt_CX5_read : bt_C := [(262, 0, 1, sX5_isSheet), (265, 0, 1, sX5_isLane), (57, 0, 3, sX5_within), (78, 1, 2, sX4_takeFrom), (275, 1, 3, sX2_faultAt), (168, 1, 1, sX4_allHaveCome), (172, 1, 2, sX4_driveOne)]
def sX5_read : bt_Sp := bt_spC f_read
set_option maxRecDepth 100000 in
theorem mX5_read : bt_MT bt_TX5_read bt_FX5 bt_CX5_read 1 9 sX5_read := by
  intro as M N Rt h P hP
  obtain ⟨t, S, r, S', rfl, hI, hf, h⟩ := bt_spC_e h
  obtain ⟨w, im, u, z, q⟩ := S
  unfold f_read at hf
  split at hf
  · next k l fr c _ _ _ _ _ e =>
    cases e
    obtain ⟨rfl, rfl⟩ := bt_some hf
    obtain ⟨a1, a2, a3, a4, a5, a6, a7, a8, a9, a10, a11, a12⟩ := id hI
    obtain ⟨b0, b1, b2, b3, b4, b5, b6, b7, b8, b9, b10⟩ := id a2
    obtain ⟨hw, h8, h9, h10, h11, h12, h13, h14, h15, h16, h17, r1, r2, r3, r4, r5, r6, r7, r8⟩ := id a1
    obtain ⟨f1, f2, f3, f4, f5, f6, f7, f8, f9, f10, f11, f12, f13, f14, f15, f16, f17, f18⟩ := id hw
    have hbad : ¬ (bt_in k 4 ∧ bt_in l 3 ∧ bt_in c 21) → Rt (some (.int (-1))) M N := fun y => by
      have nok : ¬ ((bt_in k 4 ∧ bt_in l 3 ∧ bt_in c 21) ∧ ¬ (bt_rs u q w k l fr c).1 = 4) := fun c => y c.1
      rw [if_neg y, if_neg nok, if_neg nok] at h
      exact h M N (fun _ _ => rfl) hI
    refine bt_go rfl hP 60 [52] P (fun _ _ _ _ _ h => h) ?_
    refine ⟨fun y => hbad (fun c => (bt_bi_0.mp y) c.1), fun y => ⟨fun y2 => hbad (fun c => (bt_bi_0.mp y2) c.2.1), fun y2 => ⟨fun y3 => ?_, fun y3 => ?_⟩⟩⟩
    rotate_left
    · rw [bt_bi_0, bt_in_c (k := 20) (show (20 : Int32) = nI 20 from rfl) (by omega)] at y3
      exact hbad (fun c => y3 c.2.2)
    rw [bt_bi_n0, bt_in_c (k := 20) (show (20 : Int32) = nI 20 from rfl) (by omega)] at y3
    have ok : (bt_in k 4 ∧ bt_in l 3 ∧ bt_in c 21) := ⟨bt_bi_n0.mp y, bt_bi_n0.mp y2, y3⟩
    rw [if_pos ok] at h
    obtain ⟨k, hk, rfl⟩ := bt_in_e ok.1
    obtain ⟨l, hl, rfl⟩ := bt_in_e ok.2.1
    obtain ⟨c, hc, rfl⟩ := bt_in_e ok.2.2
    obtain ⟨R, hR⟩ : ∃ R, bt_rs u q w (nI k) (nI l) fr (nI c) = R := ⟨_, rfl⟩
    rw [hR] at h
    unfold bt_rs at hR
    rw [bt_clm (by omega), bt_clm (by omega)] at hR

    obtain ⟨l1, l2⟩ := b7 k hk
    obtain ⟨s2, s1, s4⟩ := a10 k hk
    have fin : ∀ (M' : bt_M) (f i : Nat) (w' : bt_W), bt_out 11 M M' → bt_cW M' 11 w' → w' 12 0 = w 12 0 → w' 12 1 = w 12 1 → R = (f, i, w') → f ≤ 3 → ∀ M1, bt_cW M1 2 w' → bt_out 2 M' M1 → ∀ M2, M2 = va_up M1 0 (upd (M1 0) 11 (nI f)) → Rt (some (.int (nI i))) M2 N := by
      intro M' f i w' p1 p2 p3 p4 p5 p6 M1 p7 p8 M2 e2
      have hf4 : ¬ R.1 = 4 := by rw [p5]; omega
      rw [if_neg hf4, if_pos ⟨ok, hf4⟩, if_pos ⟨ok, hf4⟩, p5] at h
      refine h M2 N (fun x hx => by rw [e2, bt_up_n (by omega), p8 x (by omega), p1 x (by omega)]) ?_
      have hI1 : bt_cI M1 (w', im, u, z, q) := bt_cI_live hI p7 ⟨p3, p4⟩ (fun x hx => by rw [p8 x (by omega), p1 x (by omega)])
      exact bt_cI_t hI1 (by omega) (fun x hx => by rw [e2, bt_up_n hx]) (fun g hg => by rw [e2, bt_up_s, pk_un hg]) (by rw [e2, bt_up_s, pk_us])
    have odd : ∀ (M' : bt_M) (i : Nat) (w' : bt_W), bt_out 11 M M' → R = (4, i, w') → Rt (some (.int (-20 - nI i))) M' N := by
      intro M' i w' p1 p5
      have hf4 : R.1 = 4 := by rw [p5]
      rw [if_pos hf4, if_neg (fun c => c.2 hf4), if_neg (fun c => c.2 hf4), p5] at h
      exact h M' N (fun x hx => p1 x (by omega)) (bt_cI_same hI (fun x hx => p1 x (by omega)) (by rw [p1 49 (by omega)]))
    clear h
    have loop : ∀ v pc L st M' N', (pc = 52 ∧ st = [] ∧ N' = N ∧ ∃ i w' y, i ≤ c ∧ v = c - i ∧ L = [some (.ref 0), some (.int (nI k)), some (.int (nI l)), some (.int fr), some (.int (nI c)), some (.ref (bt_rf 40 k)), some (.int 0), some (.int (nI i)), y] ∧ bt_out 11 M M' ∧ bt_cW M' 11 w' ∧ w' 12 0 = w 12 0 ∧ w' 12 1 = w 12 1 ∧ bt_rd (u (6 + k)) (u (10 + k)) (nI l) fr (q k) (c - i) i w' = R) → P pc L st M' N' := by
      refine bt_loop rfl hP 60 [52] (fun v pc L st M' N' => (pc = 52 ∧ st = [] ∧ N' = N ∧ ∃ i w' y, i ≤ c ∧ v = c - i ∧ L = [some (.ref 0), some (.int (nI k)), some (.int (nI l)), some (.int fr), some (.int (nI c)), some (.ref (bt_rf 40 k)), some (.int 0), some (.int (nI i)), y] ∧ bt_out 11 M M' ∧ bt_cW M' 11 w' ∧ w' 12 0 = w 12 0 ∧ w' 12 1 = w 12 1 ∧ bt_rd (u (6 + k)) (u (10 + k)) (nI l) fr (q k) (c - i) i w' = R)) ?_
      rintro v pc L st M' N' ⟨rfl, rfl, rfl, i, w', y, hi, rfl, rfl, p1, p2, p3, p4, p5⟩
      have s2' : M' (41 + 2 * k) 2 = nI (u (6 + k)) - 1 := by rw [p1 _ (by omega)]; exact s2
      have s1' : M' (41 + 2 * k) 1 = nI (u (10 + k)) := by rw [p1 _ (by omega)]; exact s1
      have s4' : ∀ j, j < 40 → M' (42 + 2 * k) j = q k j := by rw [p1 _ (by omega)]; exact s4
      refine ⟨fun z1 => ?_, fun z1 => ?_⟩
      · rw [nI_leI (by omega) (by omega)] at z1
        have e0 : c - i = 0 := by omega
        rw [e0] at p5
        exact ⟨w', by unfold bt_tf; decide, p2, fun M1 c1 c2 M2 e2 => fin M' 0 i w' p1 p2 p3 p4 p5.symm (by omega) M1 c1 c2 M2 e2⟩
      · rw [nI_leI (by omega) (by omega)] at z1
        obtain ⟨r, hr⟩ : ∃ r, c - i = r + 1 := ⟨c - i - 1, by omega⟩
        rw [hr] at p5
        refine ⟨k, u (6 + k), u (10 + k), hk, bt_rf40 k hk, l1, s2', s1', ?_⟩
        refine ⟨fun z2 => ?_, fun z2 => ?_⟩
        · have z3 : bt_fa (u (6 + k)) (u (10 + k)) (nI l) (fr + nI i) = 0 := (nI_eq (b := 0) (by have := bt_fa_le (n := u (6 + k)) (l := u (10 + k)) (l' := nI l) (i := fr + nI i); omega) (by omega)).mp z2
          obtain ⟨d1, d2, d3⟩ := bt_fa_0.mp z3
          obtain ⟨a, ha, ea⟩ := bt_in_e d3
          have s5 := s4' a (by omega)
          have hod : ¬ (bt_in (q k a) 10 ∧ w' 12 4 < w' 12 0) → Rt (some (.int (-20 - nI i))) M' N' := fun n => odd M' i w' p1 (by rw [← p5]; exact bt_rd_4 z3 ea (by omega) n)
          have hgo : ∀ g, q k a = nI g → g < 10 → w' 12 4 < w' 12 0 → bt_rd (u (6 + k)) (u (10 + k)) (nI l) fr (q k) (c - (i + 1)) (i + 1) (bt_dv w' g) = R := fun g e1 e2 e3 => by rw [← p5, bt_rd_s z3 ea (by omega) e1 e2 e3, show c - (i + 1) = r by omega]
          have zz : nI (bt_fa (u (6 + k)) (u (10 + k)) (nI l) (fr + nI i)) = 0 := z2
          have n1 : nI i + 1 = nI (i + 1) := nI_1 i
          clear p5 odd fin z2 s4' s1' s2' d3 z3 ok hR s1 s2 s4
          obtain rfl | rfl | rfl | rfl : k = 0 ∨ k = 1 ∨ k = 2 ∨ k = 3 := by omega
          all_goals
            refine ⟨_, rfl, a, ea, by omega, ?_⟩
            refine ⟨fun y3 => ?_, fun y3 => ?_⟩
            · rw [bt_bi_0] at y3
              exact hod (fun c => y3 ((bt_in_c (k := 9) (show (9 : Int32) = nI 9 from rfl) (by omega)).mpr (by rw [← s5] at c; exact c.1)))
            · rw [bt_bi_n0, bt_in_c (k := 9) (show (9 : Int32) = nI 9 from rfl) (by omega)] at y3
              have y3' := y3
              obtain ⟨g, hg, eg⟩ := bt_in_e y3
              refine ⟨w', Or.inr rfl, p2, ?_⟩
              by_cases y4 : w' 12 0 ≤ w' 12 4
              · rw [if_pos y4]
                exact ⟨fun c => absurd c (by decide), fun _ => hod (fun c => by omega)⟩
              · rw [if_neg y4]
                refine ⟨fun _ => ?_, fun c => absurd rfl c⟩
                refine ⟨w', g, Or.inr rfl, p2, by omega, eg, by omega, fun M1 c1 c2 => ?_⟩
                exact ⟨c - (i + 1), by omega, rfl, rfl, rfl, i + 1, bt_dv w' g, _, by omega, rfl, by rw [zz, n1], fun x hx => by rw [c2 x (by omega) (by omega), p1 x hx], c1, p3, p4, hgo g (by rw [← s5]; exact eg) (by omega) (by omega)⟩
        · have z3 : ¬ bt_fa (u (6 + k)) (u (10 + k)) (nI l) (fr + nI i) = 0 := fun c => z2 (by rw [c]; rfl)
          rw [bt_rd_f z3] at p5
          exact ⟨w', by unfold bt_tf; decide, p2, fun M1 c1 c2 M2 e2 => fin M' _ i w' p1 p2 p3 p4 p5.symm bt_fa_le M1 c1 c2 M2 e2⟩
    refine ⟨_, rfl, k, rfl, hk, ?_⟩
    refine ⟨w, by unfold bt_tf; decide, a1, fun M1 c1 c2 => ?_⟩
    exact loop _ _ _ _ _ _ ⟨rfl, rfl, rfl, 0, w, none, by omega, rfl, rfl, c2, c1, rfl, rfl, hR⟩
  · cases hf

theorem bt_ge0 {a : Nat} (h : a < 2 ^ 31) : (0 : Int32) ≤ nI a := by
  rw [show (0 : Int32) = nI 0 from rfl, nI_leI (by omega) h]
  omega
theorem bt_mk6 {f : Nat → Nat} (h : bt_b1 f) {m : Nat} (hm : m ≤ 6) : bt_mk f m < 2 ^ 31 := by
  have h1 := bt_mk_lt h m
  have h2 : 2 ^ m ≤ 2 ^ 6 := Nat.pow_le_pow_right (by omega) hm
  omega

def bt_CX6_read : bt_C := [(46, 0, 3, sX6_in), (199, 1, 3, sX6_copies), (193, 1, 2, sX6_drives)]
def sX6_read : bt_Sp := bt_spM f_read
set_option maxRecDepth 100000 in
theorem mX6_read : bt_MT bt_TX6_read bt_FX6 bt_CX6_read 1 7 sX6_read := by
  intro as M N Rt h P hP
  obtain ⟨t, S, r, S', rfl, hI, hf, h⟩ := bt_spM_e h
  obtain ⟨w, im, u, z, q⟩ := S
  unfold f_read at hf
  split at hf
  · next k l fr c _ _ _ _ _ e =>
    cases e
    obtain ⟨rfl, rfl⟩ := bt_some hf
    obtain ⟨a1, a2, a3, a4, a5, a6, a7, a8, a9, a10, a11, a12, a13, a14, a15⟩ := id hI
    obtain ⟨b0, b1, b2, b3, b4, b5, b6, b7, b8, b9, b10⟩ := id a2
    obtain ⟨hw, g1, g2, g3, g4, g5, g6, r0, r1, r2, r3, r4, r5, r6, c7, c8, c9, c10, c11⟩ := id a1
    obtain ⟨f1, f2, f3, f4, f5, f6, f7, f8, f9, f10, f11, f12, f13, f14, f15, f16, f17, f18⟩ := id hw
    simp only [Nat.zero_add] at g3 g4 g5 g6 r0 r1 r2 r3 r4 r5 r6 c7 c8 c9 c10
    have hbad : ¬ (bt_in k 4 ∧ bt_in l 3 ∧ bt_in c 21) → Rt (some (.int (-1))) M N := fun y => by
      have nok : ¬ ((bt_in k 4 ∧ bt_in l 3 ∧ bt_in c 21) ∧ ¬ (bt_rs u q w k l fr c).1 = 4) := fun c => y c.1
      rw [if_neg y, if_neg nok, if_neg nok] at h
      exact h M (fun _ _ => rfl) hI
    refine bt_go rfl hP 60 [53] P (fun _ _ _ _ _ h => h) ?_
    refine ⟨fun y => ?_, fun y => ⟨fun y2 => ?_, fun y2 => ⟨fun y3 => ?_, fun y3 => ?_⟩⟩⟩
    · rw [bt_bi_0, bt_inl_c (k := 3) (show (3 : Int64) = lN 3 from rfl) (by omega)] at y
      exact hbad (fun c => y c.1)
    · rw [bt_bi_0, bt_inl_c (k := 2) (show (2 : Int64) = lN 2 from rfl) (by omega)] at y2
      exact hbad (fun c => y2 c.2.1)
    rotate_left
    · rw [bt_bi_0, bt_inl_c (k := 20) (show (20 : Int64) = lN 20 from rfl) (by omega)] at y3
      exact hbad (fun c => y3 c.2.2)
    rw [bt_bi_n0, bt_inl_c (k := 3) (show (3 : Int64) = lN 3 from rfl) (by omega)] at y
    rw [bt_bi_n0, bt_inl_c (k := 2) (show (2 : Int64) = lN 2 from rfl) (by omega)] at y2
    rw [bt_bi_n0, bt_inl_c (k := 20) (show (20 : Int64) = lN 20 from rfl) (by omega)] at y3
    have ok : (bt_in k 4 ∧ bt_in l 3 ∧ bt_in c 21) := ⟨y, y2, y3⟩
    rw [if_pos ok] at h
    obtain ⟨k, hk, rfl⟩ := bt_in_e ok.1
    obtain ⟨l, hl, rfl⟩ := bt_in_e ok.2.1
    obtain ⟨c, hc, rfl⟩ := bt_in_e ok.2.2
    obtain ⟨R, hR⟩ : ∃ R, bt_rs u q w (nI k) (nI l) fr (nI c) = R := ⟨_, rfl⟩
    rw [hR] at h
    unfold bt_rs at hR
    rw [bt_clm (by omega), bt_clm (by omega)] at hR

    obtain ⟨l1, l2⟩ := b7 k hk
    obtain ⟨s2, s1, s4⟩ := a11 k hk
    have fin : ∀ (M' : bt_M) (f i : Nat) (w' : bt_W), (∀ x : Nat, x ≠ 68 → M' x = M x) → (∀ j, 90 ≤ j → (j < 270 ∨ 360 ≤ j) → M' 68 j = M 68 j) → bt_mW M' 0 w' → w' 12 0 = w 12 0 → w' 12 1 = w 12 1 → R = (f, i, w') → f ≤ 3 → ∀ M2, M2 = va_up M' 67 (upd (M' 67) 26 (nI f)) → Rt (some (.int (nI i))) M2 N := by
      intro M' f i w' p1 p1b p2 p3 p4 p5 p6 M2 e2
      have hf4 : ¬ R.1 = 4 := by rw [p5]; omega
      rw [if_neg hf4, if_pos ⟨ok, hf4⟩, if_pos ⟨ok, hf4⟩, p5] at h
      refine h M2 (fun x hx => by rw [e2, bt_up_n (by omega), p1 x (by omega)]) ?_
      have hI1 : bt_mI M' (w', im, u, z, q) := bt_mI_live hI p2 ⟨p3, p4⟩ (fun x _ hx => p1 x hx) (fun j j1 j2 => p1b j j1 (by omega))
      exact bt_mI_t hI1 (by omega) (fun x hx => by rw [e2, bt_up_n hx]) (fun g hg => by rw [e2, bt_up_s, pk_un hg]) (by rw [e2, bt_up_s, pk_us])
    have odd : ∀ (M' : bt_M) (i : Nat) (w' : bt_W), (∀ x : Nat, x ≠ 68 → M' x = M x) → (∀ j, 90 ≤ j → (j < 270 ∨ 360 ≤ j) → M' 68 j = M 68 j) → (∀ j, j < 90 → M' 68 (270 + j) = M 68 j) → R = (4, i, w') → ∀ M1, bt_mfr 0 M' M1 → (∀ j : Nat, j < 90 → M1 68 (0 + j) = M' 68 (270 + j)) → Rt (some (.int (-20 - nI i))) M1 N := by
      intro M' i w' p1 p1b p1c p5 M1 c1 c2
      have hf4 : R.1 = 4 := by rw [p5]
      rw [if_pos hf4, if_neg (fun c => c.2 hf4), if_neg (fun c => c.2 hf4), p5] at h
      refine h M1 (fun x hx => by rw [c1.1 x (by omega), p1 x (by omega)]) (bt_mI_same hI (fun x _ x1 _ _ => by rw [c1.1 x x1, p1 x x1]) (fun j hj => ?_))
      by_cases hj2 : j < 90
      · have := c2 j hj2
        rw [Nat.zero_add] at this
        rw [this, p1c j hj2]
      · rw [c1.2 j (by omega), p1b j (by omega) (by omega)]
    clear h
    have loop : ∀ v pc L st M' N', (pc = 53 ∧ st = [] ∧ N' = N ∧ ∃ i w' f, i ≤ c ∧ f ≤ 3 ∧ v = 2 * (c - i) + (if f = 0 then 1 else 0) ∧ L = [some (.ref 67), some (.int (nI k)), some (.int (nI l)), some (.int fr), some (.int (nI c)), some (.int (nI f)), some (.int (nI i))] ∧ (∀ x : Nat, x ≠ 68 → M' x = M x) ∧ (∀ j, 90 ≤ j → (j < 270 ∨ 360 ≤ j) → M' 68 j = M 68 j) ∧ (∀ j, j < 90 → M' 68 (270 + j) = M 68 j) ∧ bt_mW M' 0 w' ∧ w' 12 0 = w 12 0 ∧ w' 12 1 = w 12 1 ∧ (if f = 0 then bt_rd (u (6 + k)) (u (10 + k)) (nI l) fr (q k) (c - i) i w' = R else (f, i, w') = R)) → P pc L st M' N' := by
      refine bt_loop rfl hP 80 [53] (fun v pc L st M' N' => (pc = 53 ∧ st = [] ∧ N' = N ∧ ∃ i w' f, i ≤ c ∧ f ≤ 3 ∧ v = 2 * (c - i) + (if f = 0 then 1 else 0) ∧ L = [some (.ref 67), some (.int (nI k)), some (.int (nI l)), some (.int fr), some (.int (nI c)), some (.int (nI f)), some (.int (nI i))] ∧ (∀ x : Nat, x ≠ 68 → M' x = M x) ∧ (∀ j, 90 ≤ j → (j < 270 ∨ 360 ≤ j) → M' 68 j = M 68 j) ∧ (∀ j, j < 90 → M' 68 (270 + j) = M 68 j) ∧ bt_mW M' 0 w' ∧ w' 12 0 = w 12 0 ∧ w' 12 1 = w 12 1 ∧ (if f = 0 then bt_rd (u (6 + k)) (u (10 + k)) (nI l) fr (q k) (c - i) i w' = R else (f, i, w') = R))) ?_
      rintro v pc L st M' N' ⟨rfl, rfl, rfl, i, w', f, hi, hf, rfl, rfl, p1, p1b, p1c, p2, p3, p4, p5⟩
      have s76 : M' 76 k = if u (6 + k) = 0 then -4 else nI (u (10 + k)) := by rw [p1 _ (by omega)]; exact s2
      have s77 : u (6 + k) ≠ 0 → M' 77 k = nI (u (6 + k) - 1) := by rw [p1 _ (by omega)]; exact s1
      have s78 : ∀ j, j < 40 → M' 78 (40 * k + j) = q k j := by rw [p1 _ (by omega)]; exact s4
      refine ⟨fun z1 => ?_, fun z1 => ?_⟩
      · rw [nI_leI (by omega) (by omega)] at z1
        have e0 : c - i = 0 := by omega
        intro M2 e2
        by_cases hf0 : f = 0
        · rw [if_pos hf0, e0, bt_rd_end] at p5
          exact fin M' f i w' p1 p1b p2 p3 p4 (by rw [← p5, hf0]) hf M2 e2
        · rw [if_neg hf0] at p5
          exact fin M' f i w' p1 p1b p2 p3 p4 p5.symm hf M2 e2
      · rw [nI_leI (by omega) (by omega)] at z1
        refine ⟨fun z2 => ?_, fun z2 => ?_⟩
        · have hf0 : ¬ f = 0 := fun c => z2 (by rw [c]; rfl)
          intro M2 e2
          rw [if_neg hf0] at p5
          exact fin M' f i w' p1 p1b p2 p3 p4 p5.symm hf M2 e2
        · have hf0 : f = 0 := (nI_eq (b := 0) (by omega) (by omega)).mp z2
          subst hf0
          obtain ⟨r, hr⟩ : ∃ r, c - i = r + 1 := ⟨c - i - 1, by omega⟩
          rw [if_pos rfl, hr] at p5
          have again : ∀ F : Nat, F = bt_fa (u (6 + k)) (u (10 + k)) (nI l) (fr + nI i) → ¬ F = 0 → F ≤ 3 → (if F = 0 then bt_rd (u (6 + k)) (u (10 + k)) (nI l) fr (q k) (c - i) i w' = R else (F, i, w') = R) := fun F e1 e2 e3 => by
            rw [if_neg e2, ← p5, e1]
            exact (bt_rd_f (by rw [← e1]; exact e2)).symm
          refine ⟨_, rfl, k, rfl, hk, ⟨fun z3 => ?_, fun z3 => ?_⟩⟩
          · have u6 : ¬ u (6 + k) = 0 := fun c => z3 (by rw [s76, if_pos c])
            rw [if_neg u6] at s76
            have s77 := s77 u6
            refine ⟨_, rfl, k, rfl, hk, ⟨fun z4 => ?_, fun z4 => ?_⟩⟩
            · have z4' : nI l = nI (u (10 + k)) := by rw [← s76]; exact z4.symm
              refine ⟨_, rfl, k, rfl, hk, ⟨fun z5 => ?_, fun z5 => ?_⟩⟩
              · rw [bt_bi_n0, s77, bt_fr_in (by omega) (by omega)] at z5
                have z6 : bt_fa (u (6 + k)) (u (10 + k)) (nI l) (fr + nI i) = 0 := bt_fa_0.mpr ⟨u6, z4', z5⟩
                obtain ⟨a, ha, ea⟩ := bt_in_e z5
                have s5 := s78 a (by omega)
                refine ⟨fun c => absurd rfl c, fun _ => ?_⟩
                refine ⟨_, rfl, 40 * k + a, by rw [Int32.add_assoc, ea]; simp only [bt_lit, pk_mul, nI_add], by omega, ?_⟩
                refine ⟨w', rfl, p2, fun y6 => ?_, fun y6 y7 => ?_, fun g y6 y7 y8 M1 c1 c2 => ?_⟩
                · refine ⟨fun c => absurd c (by decide), fun _ => ⟨270, 0, rfl, rfl, by omega, rfl, by omega, Or.inr (by omega), fun M1 c1 c2 => ?_⟩⟩
                  exact odd M' i w' p1 p1b p1c (by rw [← p5]; exact bt_rd_4 z6 ea (by omega) (fun c => y6 (by rw [s5]; exact c.1))) M1 c1 c2
                · refine ⟨fun c => absurd c (by decide), fun _ => ⟨270, 0, rfl, rfl, by omega, rfl, by omega, Or.inr (by omega), fun M1 c1 c2 => ?_⟩⟩
                  exact odd M' i w' p1 p1b p1c (by rw [← p5]; exact bt_rd_4 z6 ea (by omega) (fun c => by omega)) M1 c1 c2
                · refine ⟨fun _ => ?_, fun c => absurd (bt_ge0 (bt_mk6 (bt_cm_b1 w' _ _ _) p2.1.2.1)) c⟩
                  exact ⟨2 * (c - (i + 1)) + 1, by rw [if_pos rfl]; omega, rfl, rfl, rfl, i + 1, bt_dv w' g, 0, by omega, by omega, by rw [if_pos rfl], by rw [nI_1 i]; rfl, fun x hx => by rw [c2.1 x hx, p1 x hx], fun j j1 j2 => by rw [c2.2 j (by omega), p1b j j1 j2], fun j hj => by rw [c2.2 _ (by omega), p1c j hj], c1, p3, p4, by rw [if_pos rfl, ← p5, bt_rd_s z6 ea (by omega) (by rw [← s5]; exact y6) (by omega) y8, show c - (i + 1) = r by omega]⟩
              · rw [bt_bi_0, s77, bt_fr_in (by omega) (by omega)] at z5
                have z6 : bt_fa (u (6 + k)) (u (10 + k)) (nI l) (fr + nI i) = 2 := by unfold bt_fa; rw [if_neg u6, if_pos z4', if_neg z5]
                exact ⟨fun _ => ⟨2 * (c - i), by rw [if_pos rfl]; omega, rfl, rfl, rfl, i, w', 2, hi, by omega, by rw [if_neg (by omega), Nat.add_zero], rfl, p1, p1b, p1c, p2, p3, p4, again 2 z6.symm (by omega) (by omega)⟩, fun c => absurd c (by decide)⟩
            · have z4' : ¬ nI l = nI (u (10 + k)) := fun c => z4 (by rw [s76]; exact c.symm)
              have z6 : bt_fa (u (6 + k)) (u (10 + k)) (nI l) (fr + nI i) = 3 := by unfold bt_fa; rw [if_neg u6, if_neg z4']
              exact ⟨fun _ => ⟨2 * (c - i), by rw [if_pos rfl]; omega, rfl, rfl, rfl, i, w', 3, hi, by omega, by rw [if_neg (by omega), Nat.add_zero], rfl, p1, p1b, p1c, p2, p3, p4, again 3 z6.symm (by omega) (by omega)⟩, fun c => absurd c (by decide)⟩
          · have u6 : u (6 + k) = 0 := by
              by_cases c : u (6 + k) = 0
              · exact c
              · rw [s76, if_neg c] at z3
                exact absurd z3 (bt_l4 _ (by omega))
            have z6 : bt_fa (u (6 + k)) (u (10 + k)) (nI l) (fr + nI i) = 1 := by unfold bt_fa; rw [if_pos u6]
            exact ⟨fun _ => ⟨2 * (c - i), by rw [if_pos rfl]; omega, rfl, rfl, rfl, i, w', 1, hi, by omega, by rw [if_neg (by omega), Nat.add_zero], rfl, p1, p1b, p1c, p2, p3, p4, again 1 z6.symm (by omega) (by omega)⟩, fun c => absurd c (by decide)⟩
    refine ⟨0, 270, rfl, rfl, by omega, rfl, by omega, Or.inl (by omega), fun M1 c1 c2 => ?_⟩
    exact loop _ _ _ _ _ _ ⟨rfl, rfl, rfl, 0, w, 0, by omega, by omega, rfl, rfl, c1.1, fun j j1 j2 => c1.2 j (by omega), fun j hj => by rw [c2 j hj, Nat.zero_add], bt_mW_fr a1 c1 (by omega), rfl, rfl, by rw [if_pos rfl]; exact hR⟩
  · cases hf
end
section
/-! CALLS, BOTH SIDES: trials: the cost of a car, what it would need -/
theorem bt_de_12 (w : bt_W) (k : Nat) (h4 : k ≠ 4) (h5 : k ≠ 5) : bt_de w 12 k = w 12 k := (bt_dn_12 w (w 2) _).2.1 k h4 h5
theorem bt_cW_time {M : bt_M} {c k : Nat} {w : bt_W} (h : bt_cW M c w) (hk : k < w 12 1) : M (c + 8) k = nI (w 10 k) := by
  obtain ⟨hf, g8, g9, g10, g11, g12, g13, g14, g15, g16, g17, r1, r2, r3, r4, r5, r6, r7, r8⟩ := h
  exact r8 k hk
theorem bt_cW_past {M : bt_M} {c k : Nat} {w : bt_W} (h : bt_cW M c w) (hk : k < w 12 1) : M c 13 >>> (nI k &&& 31) &&& 1 = nI (w 11 k) := by
  obtain ⟨hf, g8, g9, g10, g11, g12, g13, g14, g15, g16, g17, r1, r2, r3, r4, r5, r6, r7, r8⟩ := h
  have h6 := hf.2.1
  rw [g13, bt_bitN hf.2.2.2.2.2.2.2.2.2.2.2.2.2.2.2.2.2 (by omega) (by omega), if_pos hk]
theorem bt_mW_time {M : bt_M} {p k : Nat} {w : bt_W} (h : bt_mW M p w) (hk : k < w 12 1) : M 68 (p + 58 + 5 * k + 3) = nI (w 10 k) := by
  obtain ⟨hf, g1, g2, g3, g4, g5, g6, r0, r1, r2, r3, r4, r5, r6, c7, c8, c9, c10, c11⟩ := h
  exact c10 k hk
theorem bt_mW_past {M : bt_M} {p k : Nat} {w : bt_W} (h : bt_mW M p w) (hk : k < w 12 1) : M 68 (p + 58 + 5 * k + 4) = nI (w 11 k) := by
  obtain ⟨hf, g1, g2, g3, g4, g5, g6, r0, r1, r2, r3, r4, r5, r6, c7, c8, c9, c10, c11⟩ := h
  exact c11 k hk
/-- the trial world holds a copy, nothing else is changed -/
def bt_tq (M M' : bt_M) : Prop := ∀ x : Nat, (x < 11 ∨ 19 < x) → M' x = M x
theorem bt_tq_I {M M' : bt_M} {S : bt_S} (h : bt_cI M S) (ht : bt_tq M M') : bt_cI M' S := bt_cI_same h (fun x hx => ht x (by omega)) (by rw [ht 49 (by omega)])
theorem bt_tq_fr {M M' : bt_M} (ht : bt_tq M M') : bt_cfr M M' := fun x hx => ht x (by omega)
theorem bt_tq_out {M M' M'' : bt_M} (ht : bt_tq M M') (h : bt_out 11 M' M'') : bt_tq M M'' := fun x hx => by rw [h x (by omega), ht x hx]
theorem bt_tq_frm {M M' M'' : bt_M} (ht : bt_tq M M') (h : bt_frm 11 M' M'') : bt_tq M M'' := fun x hx => by rw [h x (by omega) (by omega), ht x hx]
theorem bt_tq_live {M M' : bt_M} {w : bt_W} (ht : bt_tq M M') (h : bt_cW M 2 w) : bt_cW M' 2 w := bt_cW_kept h (fun x _ _ => ht x (by omega))
theorem bt_tq_up {M M' : bt_M} (ht : bt_tq M M') {c : Nat} {g : Nat → Int32} (h1 : 11 ≤ c) (h2 : c ≤ 19) : bt_tq M (va_up M' c g) := fun x hx => by rw [bt_up_n (by omega), ht x hx]
/-- pages 360 and 450 of the model may change -/
def bt_tm (M M' : bt_M) : Prop := (∀ x : Nat, x ≠ 68 → M' x = M x) ∧ ∀ j, j < 360 → M' 68 j = M 68 j
theorem bt_tm_I {M M' : bt_M} {S : bt_S} (h : bt_mI M S) (ht : bt_tm M M') : bt_mI M' S := bt_mI_same h (fun x _ x1 _ _ => ht.1 x x1) (fun j hj => ht.2 j (by omega))
theorem bt_tm_fx {M M' : bt_M} (ht : bt_tm M M') : bt_mfx M M' := fun x hx => ht.1 x (by omega)
theorem bt_tm_fr {M M' M'' : bt_M} (ht : bt_tm M M') {p : Nat} (hp : 360 ≤ p) (h : bt_mfr p M' M'') : bt_tm M M'' := ⟨fun x hx => by rw [h.1 x hx, ht.1 x hx], fun j hj => by rw [h.2 j (by omega), ht.2 j hj]⟩
theorem bt_tm_rf {M : bt_M} : bt_tm M M := ⟨fun _ _ => rfl, fun _ _ => rfl⟩
theorem bt_tm_live {M M' : bt_M} {w : bt_W} (ht : bt_tm M M') (h : bt_mW M 0 w) : bt_mW M' 0 w := bt_mW_kept h ht.1 (fun j _ hj => ht.2 j (by omega))
theorem bt_tm_up {M M' : bt_M} (ht : bt_tm M M') {i : Nat} {v : Int32} (h1 : 360 ≤ i) : bt_tm M (va_up M' 68 (upd (M' 68) i v)) := ⟨fun x hx => by rw [bt_up_n hx, ht.1 x hx], fun j hj => by rw [bt_up_s, pk_un (by omega), ht.2 j hj]⟩
theorem bt_tq_rf {M : bt_M} : bt_tq M M := fun _ _ => rfl
def bt_w2 (w : bt_W) (k : Nat) : bt_W := bt_w1 (bt_w1 w 7 k 2) 8 k 1
theorem bt_w2_12 (w : bt_W) (k j : Nat) : bt_w2 w k 12 j = w 12 j := by
  unfold bt_w2
  rw [bt_w1_n (by omega), bt_w1_n (by omega)]

def f_cost : bt_fn := fun t S => match t, S with
  | [.int k], (w, im, u, z, q) => some (.int (if bt_in k (w 12 1) then 10000 + (nI (bt_st (bt_de w)) - nI (bt_de w 10 k.toNatClampNeg)) - (nI (bt_st (bt_de (bt_w2 w k.toNatClampNeg))) - nI (bt_de (bt_w2 w k.toNatClampNeg) 10 k.toNatClampNeg)) else -1), (w, im, u, z, q))
  | _, _ => none

def bt_CX5_cost : bt_C := [(139, 1, 2, sX5_isCar), (78, 1, 2, sX4_takeFrom), (175, 1, 1, sX4_driveToEnd)]
def sX5_cost : bt_Sp := bt_spC f_cost
set_option maxRecDepth 100000 in
theorem mX5_cost : bt_MT bt_TX5_cost bt_FX5 bt_CX5_cost 1 4 sX5_cost := by
  intro as M N Rt h P hP
  obtain ⟨t, S, r, S', rfl, hI, hf, h⟩ := bt_spC_e h
  obtain ⟨w, im, u, z, q⟩ := S
  unfold f_cost at hf
  split at hf
  · next k _ _ _ _ _ e =>
    cases e
    obtain ⟨rfl, rfl⟩ := bt_some hf
    obtain ⟨a1, a2, a3, a4, a5, a6, a7, a8, a9, a10, a11, a12⟩ := id hI
    obtain ⟨b0, b1, b2, b3, b4, b5, b6, b7, b8, b9, b10⟩ := id a2
    obtain ⟨hw, h8, h9, h10, h11, h12, h13, h14, h15, h16, h17, r1, r2, r3, r4, r5, r6, r7, r8⟩ := id a1
    obtain ⟨f1, f2, f3, f4, f5, f6, f7, f8, f9, f10, f11, f12, f13, f14, f15, f16, f17, f18⟩ := id hw
    refine bt_go0 rfl hP 60 ?_
    refine ⟨w 12 1, rfl, h12, f2, ⟨fun y => ?_, fun y => ?_⟩⟩
    · rw [bt_bi_n0] at y
      rw [if_pos y] at h
      obtain ⟨k, hk, rfl⟩ := bt_in_e y
      rw [bt_clm (by omega)] at h
      refine ⟨w, by unfold bt_tf; decide, a1, fun M1 c1 c2 => ?_⟩
      have t1 : bt_tq M M1 := bt_tq_out bt_tq_rf c2
      refine ⟨w, Or.inr rfl, c1, fun M2 d1 d2 => ?_⟩
      have t2 := bt_tq_frm t1 d2
      have e1 := bt_cW_time d1 (k := k) (by rw [bt_de_12 w 1 (by omega) (by omega)]; exact hk)
      refine ⟨_, rfl, k, rfl, by omega, ?_⟩
      refine ⟨w, by unfold bt_tf; decide, bt_tq_live t2 a1, fun M3 p1 p2 => ?_⟩
      have t3 := bt_tq_out t2 p2
      refine ⟨_, rfl, k, rfl, by omega, fun M4 e4 => ?_⟩
      have t4 : bt_tq M M4 := by rw [e4]; exact bt_tq_up t3 (by omega) (by omega)
      have p4 : bt_cW M4 11 (bt_w1 w 7 k 2) := bt_cW_row (f := 7) (r := 5) p1 (by decide) (by omega) (fun x hx => by rw [e4, bt_up_n hx]) (fun i => by
        rw [e4, bt_up_s]
        by_cases hi : i = k
        · rw [hi, pk_us, if_pos rfl]; rfl
        · rw [pk_un hi, if_neg hi])
      refine ⟨_, rfl, k, rfl, by omega, fun M5 e5 => ?_⟩
      have t5 : bt_tq M M5 := by rw [e5]; exact bt_tq_up t4 (by omega) (by omega)
      have p5 : bt_cW M5 11 (bt_w2 w k) := bt_cW_row (f := 8) (r := 6) p4 (by decide) (by omega) (fun x hx => by rw [e5, bt_up_n hx]) (fun i => by
        rw [e5, bt_up_s]
        by_cases hi : i = k
        · rw [hi, pk_us, if_pos rfl]; rfl
        · rw [pk_un hi, if_neg hi])
      refine ⟨_, Or.inr rfl, p5, fun M6 q1 q2 => ?_⟩
      have t6 := bt_tq_frm t5 q2
      have e6 := bt_cW_time q1 (k := k) (by rw [bt_de_12 _ 1 (by omega) (by omega), bt_w2_12]; exact hk)
      refine ⟨_, rfl, k, rfl, by omega, ?_⟩
      have key := h M6 N (bt_tq_fr t6) (bt_tq_I hI t6)
      rw [← e1, ← e6] at key
      exact key
    · rw [bt_bi_0] at y
      rw [if_neg y] at h
      exact h M N (fun _ _ => rfl) hI
  · cases hf

def bt_CX6_timesOfOthers : bt_C := [(208, 1, 2, sX6_timesOn)]
def sX6_timesOfOthers : bt_Sp := fun as M N K => match as with
  | [.ref c, .int k] => ∃ w k', c = 67 ∧ bt_mW M 360 w ∧ k = nI k' ∧ k' < w 12 1 ∧ K (some (.int (nI (bt_st w) - nI (w 10 k')))) M N
  | _ => False
theorem mX6_timesOfOthers : bt_MT bt_TX6_timesOfOthers bt_FX6 bt_CX6_timesOfOthers 1 2 sX6_timesOfOthers := by
  intro as M N Rt h P hP
  unfold sX6_timesOfOthers at h
  split at h
  · obtain ⟨w, k, rfl, hw, rfl, hk, h⟩ := h
    have f2 := hw.1.2.1
    have e1 := bt_mW_time hw hk
    refine bt_go0 rfl hP 60 ?_
    refine ⟨360, w, rfl, rfl, by omega, hw, ?_⟩
    refine ⟨_, rfl, 360 + 58 + 5 * k + 3, by simp only [bt_lit, pk_mul, nI_add], by omega, ?_⟩
    rw [← e1] at h
    exact h
  · exact False.elim h

def bt_CX6_cost : bt_C := [(153, 1, 2, sX6_isCar), (205, 1, 2, sX6_triesFrom), (238, 1, 2, sX6_timesOfOthers), (199, 1, 3, sX6_copies)]
def sX6_cost : bt_Sp := bt_spM f_cost
set_option maxRecDepth 100000 in
theorem mX6_cost : bt_MT bt_TX6_cost bt_FX6 bt_CX6_cost 1 3 sX6_cost := by
  intro as M N Rt h P hP
  obtain ⟨t, S, r, S', rfl, hI, hf, h⟩ := bt_spM_e h
  obtain ⟨w, im, u, z, q⟩ := S
  unfold f_cost at hf
  split at hf
  · next k _ _ _ _ _ e =>
    cases e
    obtain ⟨rfl, rfl⟩ := bt_some hf
    obtain ⟨a1, a2, a3, a4, a5, a6, a7, a8, a9, a10, a11, a12, a13, a14, a15⟩ := id hI
    obtain ⟨b0, b1, b2, b3, b4, b5, b6, b7, b8, b9, b10⟩ := id a2
    obtain ⟨hw, g1, g2, g3, g4, g5, g6, r0, r1, r2, r3, r4, r5, r6, c7, c8, c9, c10, c11⟩ := id a1
    obtain ⟨f1, f2, f3, f4, f5, f6, f7, f8, f9, f10, f11, f12, f13, f14, f15, f16, f17, f18⟩ := id hw
    simp only [Nat.zero_add] at g3 g4 g5 g6 r0 r1 r2 r3 r4 r5 r6 c7 c8 c9 c10
    refine bt_go0 rfl hP 60 ?_
    refine ⟨w 12 1, rfl, g2, f2, ⟨fun y => ?_, fun y => ?_⟩⟩
    · rw [bt_bi_n0] at y
      rw [if_pos y] at h
      obtain ⟨k, hk, rfl⟩ := bt_in_e y
      rw [bt_clm (by omega)] at h
      refine ⟨0, w, rfl, rfl, by omega, a1, fun M1 d2 d1 => ?_⟩
      have t1 : bt_tm M M1 := bt_tm_fr bt_tm_rf (by omega) d2
      refine ⟨bt_de w, k, rfl, d1, rfl, by rw [bt_de_12 w 1 (by omega) (by omega)]; exact hk, ?_⟩
      refine ⟨0, 450, rfl, rfl, by omega, rfl, by omega, by omega, fun M3 p2 p3 => ?_⟩
      have t3 := bt_tm_fr t1 (by omega) p2
      have p1 : bt_mW M3 450 w := bt_mW_copy (bt_tm_live t1 a1) p2.1 p3
      refine ⟨_, rfl, 450 + 58 + 5 * k, by simp only [bt_lit, pk_mul, nI_add], by omega, fun M4 e4 => ?_⟩
      have t4 : bt_tm M M4 := by rw [e4]; exact bt_tm_up t3 (by omega)
      have p4 : bt_mW M4 450 (bt_w1 w 7 k 2) := bt_mW_car (f := 7) p1 (by omega) (by omega) (by omega) (by decide) (fun x hx => by rw [e4, bt_up_n hx]) (fun j hj => by rw [e4, bt_up_s, pk_un (by omega)]) (by rw [e4, bt_up_s]; exact pk_us)
      refine ⟨_, rfl, 450 + 58 + 5 * k + 1, by simp only [bt_lit, pk_mul, nI_add], by omega, fun M5 e5 => ?_⟩
      have t5 : bt_tm M M5 := by rw [e5]; exact bt_tm_up t4 (by omega)
      have p5 : bt_mW M5 450 (bt_w2 w k) := bt_mW_car (f := 8) p4 (by omega) (by omega) (by omega) (by decide) (fun x hx => by rw [e5, bt_up_n hx]) (fun j hj => by rw [e5, bt_up_s, pk_un (by omega)]) (by rw [e5, bt_up_s]; exact pk_us)
      refine ⟨450, _, rfl, rfl, by omega, p5, fun M6 q2 q1 => ?_⟩
      have t6 := bt_tm_fr t5 (by omega) q2
      refine ⟨_, k, rfl, q1, rfl, by rw [bt_de_12 _ 1 (by omega) (by omega), bt_w2_12]; exact hk, ?_⟩
      exact h M6 (bt_tm_fx t6) (bt_tm_I hI t6)
    · rw [bt_bi_0] at y
      rw [if_neg y] at h
      exact h M (fun _ _ => rfl) hI
  · cases hf
end
section
/-! CALLS, BOTH SIDES: what a car would need, a fair least -/
def bt_nef (w : bt_W) (k : Nat) : Nat → Nat → Int32
  | 0, _ => -4
  | r + 1, n => if bt_de (bt_w1 w 8 k n) 11 k = 0 then nI n else bt_nef w k r (n + 1)
theorem bt_w1_w1 (w : bt_W) (f k a b : Nat) : bt_w1 (bt_w1 w f k a) f k b = bt_w1 w f k b := by
  funext f' k'
  unfold bt_w1
  by_cases h : f' = f ∧ k' = k
  · rw [if_pos h, if_pos h]
  · rw [if_neg h, if_neg h, if_neg h]
theorem bt_cW_pe {M : bt_M} {c : Nat} {w : bt_W} (h : bt_cW M c w) : bt_wf w := h.1
theorem bt_wf11 {w : bt_W} (h : bt_wf w) (k : Nat) : w 11 k ≤ 1 := h.2.2.2.2.2.2.2.2.2.2.2.2.2.2.2.2.2 k

def f_need : bt_fn := fun t S => match t, S with
  | [.int k], (w, im, u, z, q) => some (.int (if bt_in k (w 12 1) then (if w 11 k.toNatClampNeg = 1 then -2 else bt_nef w k.toNatClampNeg 9 1) else -1), (w, im, u, z, q))
  | _, _ => none

def bt_CX5_need : bt_C := [(139, 1, 2, sX5_isCar), (129, 0, 2, sX5_bit), (78, 1, 2, sX4_takeFrom), (175, 1, 1, sX4_driveToEnd)]
def sX5_need : bt_Sp := bt_spC f_need
set_option maxRecDepth 100000 in
theorem mX5_need : bt_MT bt_TX5_need bt_FX5 bt_CX5_need 1 3 sX5_need := by
  intro as M N Rt h P hP
  obtain ⟨t, S, r, S', rfl, hI, hf, h⟩ := bt_spC_e h
  obtain ⟨w, im, u, z, q⟩ := S
  unfold f_need at hf
  split at hf
  · next k _ _ _ _ _ e =>
    cases e
    obtain ⟨rfl, rfl⟩ := bt_some hf
    obtain ⟨a1, a2, a3, a4, a5, a6, a7, a8, a9, a10, a11, a12⟩ := id hI
    obtain ⟨b0, b1, b2, b3, b4, b5, b6, b7, b8, b9, b10⟩ := id a2
    obtain ⟨hw, h8, h9, h10, h11, h12, h13, h14, h15, h16, h17, r1, r2, r3, r4, r5, r6, r7, r8⟩ := id a1
    obtain ⟨f1, f2, f3, f4, f5, f6, f7, f8, f9, f10, f11, f12, f13, f14, f15, f16, f17, f18⟩ := id hw
    refine bt_go rfl hP 60 [30] P (fun _ _ _ _ _ h => h) ?_
    refine ⟨w 12 1, rfl, h12, f2, ⟨fun y => ?_, fun y => ?_⟩⟩
    · rw [bt_bi_n0] at y
      rw [if_pos y] at h
      obtain ⟨k, hk, rfl⟩ := bt_in_e y
      rw [bt_clm (by omega)] at h
      have e0 := bt_cW_past a1 hk
      have k1 := bt_wf11 hw k
      have loop : ¬ w 11 k = 1 → ∀ v pc L st M' N', (pc = 30 ∧ st = [] ∧ N' = N ∧ ∃ n, 1 ≤ n ∧ n ≤ 10 ∧ v = 10 - n ∧ L = [some (.ref 0), some (.int (nI k)), some (.int (nI n))] ∧ bt_tq M M' ∧ bt_nef w k (10 - n) n = bt_nef w k 9 1) → P pc L st M' N' := by
        intro hk1
        rw [if_neg hk1] at h
        have hh := h
        refine bt_loop rfl hP 60 [30] (fun v pc L st M' N' => (pc = 30 ∧ st = [] ∧ N' = N ∧ ∃ n, 1 ≤ n ∧ n ≤ 10 ∧ v = 10 - n ∧ L = [some (.ref 0), some (.int (nI k)), some (.int (nI n))] ∧ bt_tq M M' ∧ bt_nef w k (10 - n) n = bt_nef w k 9 1)) ?_
        rintro v pc L st M' N' ⟨rfl, rfl, rfl, n, n1, n2, rfl, rfl, t1, p1⟩
        refine ⟨fun z1 => ?_, fun z1 => ?_⟩
        · rw [bt_lit, nI_ltI (by omega) (by omega)] at z1
          have e : 10 - n = 0 := by omega
          rw [e] at p1
          rw [← p1] at hh
          exact hh M' N' (bt_tq_fr t1) (bt_tq_I hI t1)
        · rw [bt_lit, nI_ltI (by omega) (by omega)] at z1
          obtain ⟨r, hr⟩ : ∃ r, 10 - n = r + 1 := ⟨9 - n, by omega⟩
          rw [hr, bt_nef] at p1
          refine ⟨w, by unfold bt_tf; decide, bt_tq_live t1 a1, fun M1 c1 c2 => ?_⟩
          have t2 := bt_tq_out t1 c2
          refine ⟨_, rfl, k, rfl, by omega, fun M4 e4 => ?_⟩
          have t4 : bt_tq M M4 := by rw [e4]; exact bt_tq_up t2 (by omega) (by omega)
          have p4 : bt_cW M4 11 (bt_w1 w 8 k n) := bt_cW_row (f := 8) (r := 6) c1 (show n ≤ 9 by omega) (by omega) (fun x hx => by rw [e4, bt_up_n hx]) (fun i => by
            rw [e4, bt_up_s]
            by_cases hi : i = k
            · rw [hi, pk_us, if_pos rfl]
            · rw [pk_un hi, if_neg hi])
          refine ⟨_, Or.inr rfl, p4, fun M6 q1 q2 => ?_⟩
          have t6 := bt_tq_frm t4 q2
          have e6 := bt_cW_past q1 (k := k) (by rw [bt_de_12 _ 1 (by omega) (by omega), bt_w1_n (by omega)]; exact hk)
          have k6 := bt_wf11 q1.1 k
          refine ⟨fun z2 => ?_, fun z2 => ?_⟩
          · have z3 : ¬ bt_de (bt_w1 w 8 k n) 11 k = 0 := fun c => z2 (by rw [e6, c]; rfl)
            rw [if_neg z3] at p1
            exact ⟨10 - (n + 1), by omega, rfl, rfl, rfl, n + 1, by omega, by omega, rfl, by rw [nI_1 n], t6, by rw [show 10 - (n + 1) = r by omega]; exact p1⟩
          · have z3 : bt_de (bt_w1 w 8 k n) 11 k = 0 := by
              rw [e6] at z2
              exact (bt_z01 k6).mp z2
            rw [if_pos z3] at p1
            rw [← p1] at hh
            exact hh M6 N' (bt_tq_fr t6) (bt_tq_I hI t6)
      refine ⟨fun z1 => ?_, fun z1 => ?_⟩
      · have hk1 : ¬ w 11 k = 1 := fun c => z1 (by rw [e0, c]; rfl)
        exact loop hk1 _ _ _ _ _ _ ⟨rfl, rfl, rfl, 1, by omega, by omega, rfl, rfl, bt_tq_rf, rfl⟩
      · have hk1 : w 11 k = 1 := by
          rw [e0] at z1
          exact (nI_eq (b := 1) (by omega) (by omega)).mp z1
        rw [if_pos hk1] at h
        exact h M N (fun _ _ => rfl) hI
    · rw [bt_bi_0] at y
      rw [if_neg y] at h
      exact h M N (fun _ _ => rfl) hI
  · cases hf

def bt_CX6_need : bt_C := [(153, 1, 2, sX6_isCar), (139, 1, 3, sX6_isPast), (199, 1, 3, sX6_copies), (205, 1, 2, sX6_triesFrom)]
def sX6_need : bt_Sp := bt_spM f_need
set_option maxRecDepth 100000 in
theorem mX6_need : bt_MT bt_TX6_need bt_FX6 bt_CX6_need 1 3 sX6_need := by
  intro as M N Rt h P hP
  obtain ⟨t, S, r, S', rfl, hI, hf, h⟩ := bt_spM_e h
  obtain ⟨w, im, u, z, q⟩ := S
  unfold f_need at hf
  split at hf
  · next k _ _ _ _ _ e =>
    cases e
    obtain ⟨rfl, rfl⟩ := bt_some hf
    obtain ⟨a1, a2, a3, a4, a5, a6, a7, a8, a9, a10, a11, a12, a13, a14, a15⟩ := id hI
    obtain ⟨b0, b1, b2, b3, b4, b5, b6, b7, b8, b9, b10⟩ := id a2
    obtain ⟨hw, g1, g2, g3, g4, g5, g6, r0, r1, r2, r3, r4, r5, r6, c7, c8, c9, c10, c11⟩ := id a1
    obtain ⟨f1, f2, f3, f4, f5, f6, f7, f8, f9, f10, f11, f12, f13, f14, f15, f16, f17, f18⟩ := id hw
    simp only [Nat.zero_add] at g3 g4 g5 g6 r0 r1 r2 r3 r4 r5 r6 c7 c8 c9 c10
    refine bt_go rfl hP 60 [32] P (fun _ _ _ _ _ h => h) ?_
    refine ⟨w 12 1, rfl, g2, f2, ⟨fun y => ?_, fun y => ?_⟩⟩
    · rw [bt_bi_n0] at y
      rw [if_pos y] at h
      obtain ⟨k, hk, rfl⟩ := bt_in_e y
      rw [bt_clm (by omega)] at h
      have k1 := bt_wf11 hw k
      have loop : ¬ w 11 k = 1 → ∀ v pc L st M' N', (pc = 32 ∧ st = [] ∧ N' = N ∧ ∃ n w', 1 ≤ n ∧ n ≤ 10 ∧ v = 10 - n ∧ L = [some (.ref 67), some (.int (nI k)), some (.int (nI n))] ∧ bt_tm M M' ∧ bt_mW M' 450 w' ∧ (∀ a, bt_w1 w' 8 k a = bt_w1 w 8 k a) ∧ bt_nef w k (10 - n) n = bt_nef w k 9 1) → P pc L st M' N' := by
        intro hk1
        rw [if_neg hk1] at h
        refine bt_loop rfl hP 60 [32] (fun v pc L st M' N' => (pc = 32 ∧ st = [] ∧ N' = N ∧ ∃ n w', 1 ≤ n ∧ n ≤ 10 ∧ v = 10 - n ∧ L = [some (.ref 67), some (.int (nI k)), some (.int (nI n))] ∧ bt_tm M M' ∧ bt_mW M' 450 w' ∧ (∀ a, bt_w1 w' 8 k a = bt_w1 w 8 k a) ∧ bt_nef w k (10 - n) n = bt_nef w k 9 1)) ?_
        rintro v pc L st M' N' ⟨rfl, rfl, rfl, n, w', n1, n2, rfl, rfl, t1, c1, ew, p1⟩
        refine ⟨fun z1 => ?_, fun z1 => ?_⟩
        · rw [bt_lit, nI_ltI (by omega) (by omega)] at z1
          have e : 10 - n = 0 := by omega
          rw [e] at p1
          rw [← p1] at h
          exact h M' (bt_tm_fx t1) (bt_tm_I hI t1)
        · rw [bt_lit, nI_ltI (by omega) (by omega)] at z1
          obtain ⟨r, hr⟩ : ∃ r, 10 - n = r + 1 := ⟨9 - n, by omega⟩
          rw [hr, bt_nef] at p1
          refine ⟨_, rfl, 450 + 58 + 5 * k + 1, by simp only [bt_lit, pk_mul, nI_add], by omega, fun M4 e4 => ?_⟩
          have t4 : bt_tm M M4 := by rw [e4]; exact bt_tm_up t1 (by omega)
          have p4 : bt_mW M4 450 (bt_w1 w' 8 k n) := bt_mW_car (f := 8) c1 (by omega) (by omega) (by omega) (show n ≤ 9 by omega) (fun x hx => by rw [e4, bt_up_n hx]) (fun j hj => by rw [e4, bt_up_s, pk_un (by omega)]) (by rw [e4, bt_up_s]; exact pk_us)
          rw [ew n] at p4
          refine ⟨450, _, rfl, rfl, by omega, p4, fun M6 q2 q1 => ?_⟩
          have t6 := bt_tm_fr t4 (by omega) q2
          have p6 : bt_mW M6 450 (bt_w1 w 8 k n) := bt_mW_fr p4 q2 (by omega)
          have e6 := bt_mW_past q1 (k := k) (by rw [bt_de_12 _ 1 (by omega) (by omega), bt_w1_n (by omega)]; exact hk)
          have k6 := bt_wf11 q1.1 k
          refine ⟨360, k, _, rfl, rfl, rfl, by omega, e6, k6, ⟨fun z2 => ?_, fun z2 => ?_⟩⟩
          · have z3 : ¬ bt_de (bt_w1 w 8 k n) 11 k = 0 := fun c => z2 (by rw [c]; rfl)
            rw [if_neg z3] at p1
            exact ⟨10 - (n + 1), by omega, rfl, rfl, rfl, n + 1, _, by omega, by omega, rfl, by rw [nI_1 n], t6, p6, fun a => bt_w1_w1 w 8 k n a, by rw [show 10 - (n + 1) = r by omega]; exact p1⟩
          · have z3 : bt_de (bt_w1 w 8 k n) 11 k = 0 := (bt_z01 k6).mp z2
            rw [if_pos z3] at p1
            rw [← p1] at h
            exact h M6 (bt_tm_fx t6) (bt_tm_I hI t6)
      refine ⟨0, k, _, rfl, rfl, rfl, by omega, bt_mW_past a1 hk, k1, ⟨fun z1 => ?_, fun z1 => ?_⟩⟩
      · have hk1 : ¬ w 11 k = 1 := fun c => by rw [c] at z1; exact absurd z1 (by decide)
        refine ⟨0, 450, rfl, rfl, by omega, rfl, by omega, by omega, fun M3 p2 p3 => ?_⟩
        exact loop hk1 _ _ _ _ _ _ ⟨rfl, rfl, rfl, 1, w, by omega, by omega, rfl, rfl, bt_tm_fr bt_tm_rf (by omega) p2, bt_mW_copy a1 p2.1 p3, fun _ => rfl, rfl⟩
      · have hk1 : w 11 k = 1 := by
          have : ¬ w 11 k = 0 := fun c => z1 (by rw [c]; rfl)
          omega
        rw [if_pos hk1] at h
        exact h M (fun _ _ => rfl) hI
    · rw [bt_bi_0] at y
      rw [if_neg y] at h
      exact h M (fun _ _ => rfl) hI
  · cases hf

def bt_ff (w : bt_W) : Nat → Nat × Nat
  | 0 => (0, 0)
  | n + 1 => if n = 0 ∨ bt_st (bt_de (bt_w1 w 12 3 n)) < (bt_ff w n).2 then (n, bt_st (bt_de (bt_w1 w 12 3 n))) else bt_ff w n
theorem bt_st_le {w : bt_W} (h : bt_wf w) : bt_st w ≤ 3888 := by
  have := bt_sumk_le h (w 12 1)
  have := h.2.1
  unfold bt_st
  omega
theorem bt_de_wf {w : bt_W} (h : bt_wf w) : bt_wf (bt_de w) := bt_dn_wf _ h _ (by have := h.2.2.1; omega)
theorem bt_ff_le {w : bt_W} (h : bt_wf w) : ∀ n, n ≤ 7 → (bt_ff w n).1 ≤ 6 ∧ (bt_ff w n).2 ≤ 3888
  | 0, _ => by simp [bt_ff]
  | n + 1, hn => by
    have ih := bt_ff_le h n (by omega)
    have := bt_st_le (bt_de_wf (bt_wf_le h (v := n) (by omega)))
    simp only [bt_ff]
    split
    · exact ⟨by omega, this⟩
    · exact ih

def f_fair : bt_fn := fun t S => match t, S with
  | [.int x], (w, im, u, z, q) => some (.int (if bt_in x 2 then (if x = 0 then nI (bt_ff w 7).1 else nI (bt_ff w 7).2) else -1), (w, im, u, z, q))
  | _, _ => none

def bt_CX5_fair : bt_C := [(57, 0, 3, sX5_within), (78, 1, 2, sX4_takeFrom), (175, 1, 1, sX4_driveToEnd)]
def sX5_fair : bt_Sp := bt_spC f_fair
set_option maxRecDepth 100000 in
theorem mX5_fair : bt_MT bt_TX5_fair bt_FX5 bt_CX5_fair 1 6 sX5_fair := by
  intro as M N Rt h P hP
  obtain ⟨t, S, r, S', rfl, hI, hf, h⟩ := bt_spC_e h
  obtain ⟨w, im, u, z, q⟩ := S
  unfold f_fair at hf
  split at hf
  · next x _ _ _ _ _ e =>
    cases e
    obtain ⟨rfl, rfl⟩ := bt_some hf
    obtain ⟨a1, a2, a3, a4, a5, a6, a7, a8, a9, a10, a11, a12⟩ := id hI
    obtain ⟨b0, b1, b2, b3, b4, b5, b6, b7, b8, b9, b10⟩ := id a2
    obtain ⟨hw, h8, h9, h10, h11, h12, h13, h14, h15, h16, h17, r1, r2, r3, r4, r5, r6, r7, r8⟩ := id a1
    obtain ⟨f1, f2, f3, f4, f5, f6, f7, f8, f9, f10, f11, f12, f13, f14, f15, f16, f17, f18⟩ := id hw
    refine bt_go rfl hP 60 [18] P (fun _ _ _ _ _ h => h) ?_
    refine ⟨fun y => ?_, fun y => ?_⟩
    · rw [bt_bi_n0, bt_in_c (k := 1) (show (1 : Int32) = nI 1 from rfl) (by omega)] at y
      rw [if_pos y] at h
      have hh := h
      have loop : ∀ v pc L st M' N', (pc = 18 ∧ st = [] ∧ N' = N ∧ ∃ n y, n ≤ 7 ∧ v = 7 - n ∧ L = [some (.ref 0), some (.int x), some (.int (nI (bt_ff w n).1)), some (.int (nI (bt_ff w n).2)), some (.int (nI n)), y] ∧ bt_tq M M') → P pc L st M' N' := by
        refine bt_loop rfl hP 60 [18] (fun v pc L st M' N' => (pc = 18 ∧ st = [] ∧ N' = N ∧ ∃ n y, n ≤ 7 ∧ v = 7 - n ∧ L = [some (.ref 0), some (.int x), some (.int (nI (bt_ff w n).1)), some (.int (nI (bt_ff w n).2)), some (.int (nI n)), y] ∧ bt_tq M M')) ?_
        rintro v pc L st M' N' ⟨rfl, rfl, rfl, n, yy, n2, rfl, rfl, t1⟩
        refine ⟨fun z1 => ?_, fun z1 => ?_⟩
        · rw [bt_lit, nI_ltI (by omega) (by omega)] at z1
          have e : n = 7 := by omega
          subst e
          refine ⟨fun z2 => ?_, fun z2 => ?_⟩
          · rw [if_neg z2] at hh
            exact hh M' N' (bt_tq_fr t1) (bt_tq_I hI t1)
          · rw [if_pos z2] at hh
            exact hh M' N' (bt_tq_fr t1) (bt_tq_I hI t1)
        · rw [bt_lit, nI_ltI (by omega) (by omega)] at z1
          refine ⟨w, by unfold bt_tf; decide, bt_tq_live t1 a1, fun M1 c1 c2 => ?_⟩
          have t2 := bt_tq_out t1 c2
          intro M4 e4
          have t4 : bt_tq M M4 := by rw [e4]; exact bt_tq_up t2 (by omega) (by omega)
          have p4 : bt_cW M4 11 (bt_w1 w 12 3 n) := bt_cW_le c1 (by omega) (fun x hx => by rw [e4, bt_up_n hx]) (fun i hi => by rw [e4, bt_up_s, pk_un hi]) (by rw [e4, bt_up_s]; exact pk_us)
          refine ⟨_, Or.inr rfl, p4, fun M6 q1 q2 => ?_⟩
          have t6 := bt_tq_frm t4 q2
          have l1 := bt_ff_le hw n (by omega)
          have l2 := bt_st_le q1.1
          refine ⟨fun z2 => ?_, fun z2 => ⟨fun z3 => ?_, fun z3 => ?_⟩⟩
          · have z3 : n = 0 := (nI_eq (b := 0) (by omega) (by omega)).mp z2
            have e : bt_ff w (n + 1) = (n, bt_st (bt_de (bt_w1 w 12 3 n))) := by rw [bt_ff, if_pos (Or.inl z3)]
            exact ⟨7 - (n + 1), by omega, rfl, rfl, rfl, n + 1, _, by omega, rfl, by rw [e, nI_1 n], t6⟩
          · rw [nI_leI (by omega) (by omega)] at z3
            have z4 : ¬ n = 0 := fun c => z2 (by rw [c]; rfl)
            have e : bt_ff w (n + 1) = bt_ff w n := by rw [bt_ff, if_neg (by omega)]
            exact ⟨7 - (n + 1), by omega, rfl, rfl, rfl, n + 1, _, by omega, rfl, by rw [e, nI_1 n], t6⟩
          · rw [nI_leI (by omega) (by omega)] at z3
            have e : bt_ff w (n + 1) = (n, bt_st (bt_de (bt_w1 w 12 3 n))) := by rw [bt_ff, if_pos (Or.inr (by omega))]
            exact ⟨7 - (n + 1), by omega, rfl, rfl, rfl, n + 1, _, by omega, rfl, by rw [e, nI_1 n], t6⟩
      exact loop _ _ _ _ _ _ ⟨rfl, rfl, rfl, 0, none, by omega, rfl, rfl, bt_tq_rf⟩
    · rw [bt_bi_0, bt_in_c (k := 1) (show (1 : Int32) = nI 1 from rfl) (by omega)] at y
      rw [if_neg y] at h
      exact h M N (fun _ _ => rfl) hI
  · cases hf

def bt_CX6_fair : bt_C := [(46, 0, 3, sX6_in), (199, 1, 3, sX6_copies), (205, 1, 2, sX6_triesFrom), (208, 1, 2, sX6_timesOn)]
def sX6_fair : bt_Sp := bt_spM f_fair
set_option maxRecDepth 100000 in
theorem mX6_fair : bt_MT bt_TX6_fair bt_FX6 bt_CX6_fair 1 6 sX6_fair := by
  intro as M N Rt h P hP
  obtain ⟨t, S, r, S', rfl, hI, hf, h⟩ := bt_spM_e h
  obtain ⟨w, im, u, z, q⟩ := S
  unfold f_fair at hf
  split at hf
  · next x _ _ _ _ _ e =>
    cases e
    obtain ⟨rfl, rfl⟩ := bt_some hf
    obtain ⟨a1, a2, a3, a4, a5, a6, a7, a8, a9, a10, a11, a12, a13, a14, a15⟩ := id hI
    obtain ⟨b0, b1, b2, b3, b4, b5, b6, b7, b8, b9, b10⟩ := id a2
    obtain ⟨hw, g1, g2, g3, g4, g5, g6, r0, r1, r2, r3, r4, r5, r6, c7, c8, c9, c10, c11⟩ := id a1
    obtain ⟨f1, f2, f3, f4, f5, f6, f7, f8, f9, f10, f11, f12, f13, f14, f15, f16, f17, f18⟩ := id hw
    simp only [Nat.zero_add] at g3 g4 g5 g6 r0 r1 r2 r3 r4 r5 r6 c7 c8 c9 c10
    refine bt_go rfl hP 60 [28] P (fun _ _ _ _ _ h => h) ?_
    refine ⟨fun y => ?_, fun y => ?_⟩
    · rw [bt_bi_n0, bt_inl_c (k := 1) (show (1 : Int64) = lN 1 from rfl) (by omega)] at y
      rw [if_pos y] at h
      have loop : ∀ v pc L st M' N', (pc = 28 ∧ st = [] ∧ N' = N ∧ ∃ n y w', n ≤ 7 ∧ v = 7 - n ∧ L = [some (.ref 67), some (.int x), some (.int (nI (bt_ff w n).2)), some (.int (if n = 0 then -4 else nI (bt_ff w n).1)), some (.int (nI n)), y] ∧ bt_tm M M' ∧ bt_mW M' 450 w' ∧ ∀ a, bt_w1 w' 12 3 a = bt_w1 w 12 3 a) → P pc L st M' N' := by
        refine bt_loop rfl hP 60 [28] (fun v pc L st M' N' => (pc = 28 ∧ st = [] ∧ N' = N ∧ ∃ n y w', n ≤ 7 ∧ v = 7 - n ∧ L = [some (.ref 67), some (.int x), some (.int (nI (bt_ff w n).2)), some (.int (if n = 0 then -4 else nI (bt_ff w n).1)), some (.int (nI n)), y] ∧ bt_tm M M' ∧ bt_mW M' 450 w' ∧ ∀ a, bt_w1 w' 12 3 a = bt_w1 w 12 3 a)) ?_
        rintro v pc L st M' N' ⟨rfl, rfl, hN, n, yy, w', n2, rfl, rfl, t1, c1, ew⟩
        subst hN
        have l1 := bt_ff_le hw n (by omega)
        refine ⟨fun z1 => ?_, fun z1 => ?_⟩
        · rw [bt_lit, nI_ltI (by omega) (by omega)] at z1
          have e : n = 7 := by omega
          subst e
          have hh := h M' (bt_tm_fx t1) (bt_tm_I hI t1)
          refine ⟨fun z2 => ?_, fun z2 => ?_⟩
          · rw [if_neg z2] at hh
            exact hh
          · rw [if_pos z2] at hh
            exact hh
        · rw [bt_lit, nI_ltI (by omega) (by omega)] at z1
          refine ⟨_, rfl, 507, rfl, by omega, fun M4 e4 => ?_⟩
          have t4 : bt_tm M M4 := by rw [e4]; exact bt_tm_up t1 (by omega)
          have p4 : bt_mW M4 450 (bt_w1 w' 12 3 n) := bt_mW_le c1 (by omega) (fun x hx => by rw [e4, bt_up_n hx]) (fun j hj => by rw [e4, bt_up_s, pk_un (by omega)]) (by rw [e4, bt_up_s]; exact pk_us)
          rw [ew n] at p4
          refine ⟨450, _, rfl, rfl, by omega, p4, fun M6 q2 q1 => ?_⟩
          have t6 := bt_tm_fr t4 (by omega) q2
          have p6 : bt_mW M6 450 (bt_w1 w 12 3 n) := bt_mW_fr p4 q2 (by omega)
          have l2 := bt_st_le q1.1
          have n4 : ¬ n = 0 → ¬ (if n = 0 then (-4 : Int32) else nI (bt_ff w n).1) = -4 := fun c => by
            rw [if_neg c]
            have : ∀ a, a < 7 → ¬ nI a = -4 := by decide
            exact this _ (by omega)
          refine ⟨fun z2 => ?_, fun z2 => ⟨360, _, rfl, rfl, by omega, q1, ⟨fun z3 => ?_, fun z3 => ?_⟩⟩⟩
          · have z3 : n = 0 := by
              by_cases c : n = 0
              · exact c
              · exact absurd z2 (n4 c)
            have e : bt_ff w (n + 1) = (n, bt_st (bt_de (bt_w1 w 12 3 n))) := by rw [bt_ff, if_pos (Or.inl z3)]
            refine ⟨fun c => absurd c (by decide), fun _ => ⟨fun c => absurd c (by decide), fun _ => ⟨360, _, rfl, rfl, by omega, q1, ?_⟩⟩⟩
            exact ⟨7 - (n + 1), by omega, rfl, rfl, rfl, n + 1, _, _, by omega, rfl, by rw [e, nI_1 n, if_neg (show ¬ n + 1 = 0 by omega)], t6, p6, fun a => bt_w1_w1 w 12 3 n a⟩
          · rw [nI_leI (by omega) (by omega)] at z3
            have z4 : ¬ n = 0 := fun c => z2 (by rw [if_pos c])
            have e : bt_ff w (n + 1) = bt_ff w n := by rw [bt_ff, if_neg (by omega)]
            refine ⟨fun _ => ⟨fun _ => ?_, fun c => absurd rfl c⟩, fun c => absurd rfl c⟩
            exact ⟨7 - (n + 1), by omega, rfl, rfl, rfl, n + 1, _, _, by omega, rfl, by rw [if_neg z4, e, nI_1 n, if_neg (show ¬ n + 1 = 0 by omega)], t6, p6, fun a => bt_w1_w1 w 12 3 n a⟩
          · rw [nI_leI (by omega) (by omega)] at z3
            have z4 : ¬ n = 0 := fun c => z2 (by rw [if_pos c])
            have e : bt_ff w (n + 1) = (n, bt_st (bt_de (bt_w1 w 12 3 n))) := by rw [bt_ff, if_pos (Or.inr (by omega))]
            refine ⟨fun c => absurd c (by decide), fun _ => ⟨fun c => absurd c (by decide), fun _ => ⟨360, _, rfl, rfl, by omega, q1, ?_⟩⟩⟩
            exact ⟨7 - (n + 1), by omega, rfl, rfl, rfl, n + 1, _, _, by omega, rfl, by rw [e, nI_1 n, if_neg (show ¬ n + 1 = 0 by omega)], t6, p6, fun a => bt_w1_w1 w 12 3 n a⟩
      refine ⟨0, 450, rfl, rfl, by omega, rfl, by omega, by omega, fun M3 p2 p3 => ?_⟩
      exact loop _ _ _ _ _ _ ⟨rfl, rfl, rfl, 0, none, w, by omega, rfl, rfl, bt_tm_fr bt_tm_rf (by omega) p2, bt_mW_copy a1 p2.1 p3, fun _ => rfl⟩
    · rw [bt_bi_0, bt_inl_c (k := 1) (show (1 : Int64) = lN 1 from rfl) (by omega)] at y
      rw [if_neg y] at h
      exact h M (fun _ _ => rfl) hI
  · cases hf
end
section
/-! CALLS, BOTH SIDES: the tail, drifting gaps -/
theorem bt_us16 (s : Int32) : (s.toUInt32 >>> ((16 : Int32).toUInt32 &&& Int32.toUInt32 31)).toInt32 &&& 32767 = (s >>> ((16 : Int32) &&& 31)) &&& 32767 := by
  apply Int32.toBitVec_inj.mp
  rw [Int32.toBitVec_and, Int32.toBitVec_and, Int32.toBitVec_shiftRight, show ((16 : Int32) &&& 31).toBitVec.smod 32 = 16#32 from by decide]
  show (s.toBitVec >>> 16) &&& 32767#32 = (s.toBitVec.sshiftRight' 16#32) &&& 32767#32
  generalize s.toBitVec = x
  have hb : ∀ i, (h : i < 32) → ¬ i < 15 → (32767#32)[i] = false := by decide
  ext i hi
  rw [BitVec.getElem_and, BitVec.getElem_and]
  by_cases h : i < 15
  · rw [BitVec.sshiftRight_eq', BitVec.getElem_sshiftRight, BitVec.getElem_ushiftRight]
    have e : (16#32).toNat = 16 := rfl
    rw [dif_pos (by rw [e]; omega), BitVec.getLsbD_eq_getElem (show 16 + i < 32 by omega)]
    rfl
  · rw [hb i hi h, Bool.and_false, Bool.and_false]
theorem bt_and15 (x : Int32) : x &&& 32767 = nI (x.toBitVec.toNat % 32768) := by
  apply Int32.toBitVec_inj.mp
  apply BitVec.eq_of_toNat_eq
  rw [pk_tn (by omega), Int32.toBitVec_and, BitVec.toNat_and]
  show x.toBitVec.toNat &&& (2 ^ 15 - 1) = _
  rw [Nat.and_two_pow_sub_one_eq_mod]
/-- the next number, the gap that it tells -/
def bt_lgc (s : Int32) : Int32 := s * 1103515245 + 12345
def bt_dg (s : Int32) : Nat := (s >>> ((16 : Int32) &&& 31)).toBitVec.toNat % 32768 % 10
theorem bt_dg_c (s : Int32) : (s.toUInt32 >>> ((16 : Int32).toUInt32 &&& Int32.toUInt32 31)).toInt32 &&& 32767 = nI ((s >>> ((16 : Int32) &&& 31)).toBitVec.toNat % 32768) := by
  rw [bt_us16, bt_and15]
theorem bt_dg_r (a : Nat) (h : a < 32768) : nI a - nI a / 10 * 10 = nI (a % 10) := pk_rem (d := 10) (by omega) (by omega) (by omega)
theorem bt_dg_le (s : Int32) : bt_dg s ≤ 9 := by
  unfold bt_dg
  omega
def bt_lsq (s : Int32) : Nat → Int32
  | 0 => s
  | j + 1 => bt_lgc (bt_lsq s j)
def bt_dw (w : bt_W) (s : Int32) : Nat → bt_W := bt_dn w (fun i => bt_dg (bt_lsq s (i - w 12 4 + 1)))
theorem bt_dw_s (w : bt_W) (s : Int32) (j : Nat) : bt_dw w s (j + 1) = bt_dv (bt_dw w s j) (bt_dg (bt_lsq s (j + 1))) := by
  unfold bt_dw
  rw [bt_dn, show w 12 4 + j - w 12 4 + 1 = j + 1 by omega]
theorem bt_nI_add3 (a j : Nat) : nI (a + j) + 1 = nI (a + (j + 1)) := by rw [nI_1, Nat.add_assoc]

def f_tail : bt_fn := fun t S => match t, S with
  | [.int n], (w, im, u, z, q) => some (.int (if bt_in n 9 then nI (2 ^ w 12 1 - 1 - bt_mk (bt_dn w (w 2) (min n.toNatClampNeg (w 12 0 - w 12 4)) 11) (w 12 1)) else -1), (w, im, u, z, q))
  | _, _ => none

def bt_CX5_tail : bt_C := [(57, 0, 3, sX5_within), (78, 1, 2, sX4_takeFrom), (179, 0, 2, sJ9_min_7cf53), (172, 1, 2, sX4_driveOne), (184, 1, 2, sX4_behind)]
def sX5_tail : bt_Sp := bt_spC f_tail
set_option maxRecDepth 100000 in
theorem mX5_tail : bt_MT bt_TX5_tail bt_FX5 bt_CX5_tail 1 4 sX5_tail := by
  intro as M N Rt h P hP
  obtain ⟨t, S, r, S', rfl, hI, hf, h⟩ := bt_spC_e h
  obtain ⟨w, im, u, z, q⟩ := S
  unfold f_tail at hf
  split at hf
  · next n _ _ _ _ _ e =>
    cases e
    obtain ⟨rfl, rfl⟩ := bt_some hf
    obtain ⟨a1, a2, a3, a4, a5, a6, a7, a8, a9, a10, a11, a12⟩ := id hI
    obtain ⟨b0, b1, b2, b3, b4, b5, b6, b7, b8, b9, b10⟩ := id a2
    obtain ⟨hw, h8, h9, h10, h11, h12, h13, h14, h15, h16, h17, r1, r2, r3, r4, r5, r6, r7, r8⟩ := id a1
    obtain ⟨f1, f2, f3, f4, f5, f6, f7, f8, f9, f10, f11, f12, f13, f14, f15, f16, f17, f18⟩ := id hw
    refine bt_go rfl hP 60 [51] P (fun _ _ _ _ _ h => h) ?_
    refine ⟨fun y => ?_, fun y => ?_⟩
    · rw [bt_bi_n0, bt_in_c (k := 8) (show (8 : Int32) = nI 8 from rfl) (by omega)] at y
      rw [if_pos y] at h
      obtain ⟨n, hn, rfl⟩ := bt_in_e y
      rw [bt_clm (by omega)] at h
      obtain ⟨J, hJ⟩ : ∃ J, J = min n (w 12 0 - w 12 4) := ⟨_, rfl⟩
      rw [← hJ] at h
      have hh := h
      have loop : ∀ v pc L st M' N', (pc = 51 ∧ st = [] ∧ N' = N ∧ ∃ j, j ≤ J ∧ v = J - j ∧ L = [some (.ref 0), some (.int (nI n)), some (.int (nI (w 12 4 + J))), some (.int (nI (w 12 4 + j)))] ∧ bt_tq M M' ∧ bt_cW M' 11 (bt_dn w (w 2) j)) → P pc L st M' N' := by
        refine bt_loop rfl hP 60 [51] (fun v pc L st M' N' => (pc = 51 ∧ st = [] ∧ N' = N ∧ ∃ j, j ≤ J ∧ v = J - j ∧ L = [some (.ref 0), some (.int (nI n)), some (.int (nI (w 12 4 + J))), some (.int (nI (w 12 4 + j)))] ∧ bt_tq M M' ∧ bt_cW M' 11 (bt_dn w (w 2) j))) ?_
        rintro v pc L st M' N' ⟨rfl, rfl, hN, j, hj, rfl, rfl, t1, p1⟩
        obtain ⟨d1, d2, d3⟩ := bt_dn_12 w (w 2) j
        obtain ⟨e0, e8, e9, e10, e11, e12, e13, e14, e15, e16, e17, s1, s2, s3, s4, s5, s6, s7, s8⟩ := id p1
        rw [d2 1 (by omega) (by omega)] at e12 e13
        rw [d2 0 (by omega) (by omega), d3 2 (by omega)] at s3
        refine ⟨fun z1 => ?_, fun z1 => ?_⟩
        · rw [nI_leI (by omega) (by omega)] at z1
          have e : j = J := by omega
          rw [e] at e13 e0
          refine ⟨w 12 1, _, Or.inr rfl, e12, f2, e13, bt_mk_lt (fun k => bt_wf11 e0 k) _, ?_⟩
          rw [hN]
          exact hh M' N (bt_tq_fr t1) (bt_tq_I hI t1)
        · rw [nI_leI (by omega) (by omega)] at z1
          refine ⟨_, rfl, w 12 4 + j, rfl, by omega, ?_⟩
          refine ⟨_, w 2 (w 12 4 + j), Or.inr rfl, p1, by rw [d1, d2 0 (by omega) (by omega)]; omega, s3 _ (by omega), f9 _, fun M2 q1 q2 => ?_⟩
          exact ⟨J - (j + 1), by omega, rfl, rfl, hN, j + 1, by omega, rfl, by rw [bt_nI_add3], bt_tq_frm t1 q2, q1⟩
      refine ⟨w, by unfold bt_tf; decide, a1, fun M1 c1 c2 => ?_⟩
      have t1 : bt_tq M M1 := bt_tq_out bt_tq_rf c2
      have e8 : M1 2 8 = nI (w 12 0) := by rw [t1 2 (by omega)]; exact h8
      have e16 : M1 2 16 = nI (w 12 4) := by rw [t1 2 (by omega)]; exact h16
      have eJ : (if M1 2 8 < M1 2 16 + nI n then M1 2 8 else M1 2 16 + nI n) = nI (w 12 4 + J) := by
        rw [e8, e16, nI_add]
        by_cases c : w 12 0 < w 12 4 + n
        · rw [if_pos ((nI_ltI (by omega) (by omega)).mpr c)]
          congr 1
          omega
        · rw [if_neg (fun d => c ((nI_ltI (by omega) (by omega)).mp d))]
          congr 1
          omega
      exact loop _ _ _ _ _ _ ⟨rfl, rfl, rfl, 0, by omega, rfl, by rw [eJ, e16]; rfl, t1, c1⟩
    · rw [bt_bi_0, bt_in_c (k := 8) (show (8 : Int32) = nI 8 from rfl) (by omega)] at y
      rw [if_neg y] at h
      exact h M N (fun _ _ => rfl) hI
  · cases hf

def bt_CX6_tail : bt_C := [(46, 0, 3, sX6_in), (199, 1, 3, sX6_copies), (187, 1, 2, sX6_areLeft), (196, 1, 2, sX6_ownGap), (190, 1, 3, sX6_driveOn), (146, 1, 2, sX6_pastOn)]
def sX6_tail : bt_Sp := bt_spM f_tail
set_option maxRecDepth 100000 in
theorem mX6_tail : bt_MT bt_TX6_tail bt_FX6 bt_CX6_tail 1 3 sX6_tail := by
  intro as M N Rt h P hP
  obtain ⟨t, S, r, S', rfl, hI, hf, h⟩ := bt_spM_e h
  obtain ⟨w, im, u, z, q⟩ := S
  unfold f_tail at hf
  split at hf
  · next n _ _ _ _ _ e =>
    cases e
    obtain ⟨rfl, rfl⟩ := bt_some hf
    obtain ⟨a1, a2, a3, a4, a5, a6, a7, a8, a9, a10, a11, a12, a13, a14, a15⟩ := id hI
    obtain ⟨b0, b1, b2, b3, b4, b5, b6, b7, b8, b9, b10⟩ := id a2
    obtain ⟨hw, g1, g2, g3, g4, g5, g6, r0, r1, r2, r3, r4, r5, r6, c7, c8, c9, c10, c11⟩ := id a1
    obtain ⟨f1, f2, f3, f4, f5, f6, f7, f8, f9, f10, f11, f12, f13, f14, f15, f16, f17, f18⟩ := id hw
    simp only [Nat.zero_add] at g3 g4 g5 g6 r0 r1 r2 r3 r4 r5 r6 c7 c8 c9 c10
    refine bt_go rfl hP 60 [24] P (fun _ _ _ _ _ h => h) ?_
    refine ⟨fun y => ?_, fun y => ?_⟩
    · rw [bt_bi_n0, bt_inl_c (k := 8) (show (8 : Int64) = lN 8 from rfl) (by omega)] at y
      rw [if_pos y] at h
      obtain ⟨n, hn, rfl⟩ := bt_in_e y
      rw [bt_clm (by omega)] at h
      obtain ⟨J, hJ⟩ : ∃ J, J = min n (w 12 0 - w 12 4) := ⟨_, rfl⟩
      rw [← hJ] at h
      have hh := h
      have loop : ∀ v pc L st M' N', (pc = 24 ∧ st = [] ∧ N' = N ∧ ∃ j, j ≤ J ∧ v = J - j ∧ L = [some (.ref 67), some (.int (nI n)), some (.int (nI j))] ∧ bt_tm M M' ∧ bt_mW M' 360 (bt_dn w (w 2) j)) → P pc L st M' N' := by
        refine bt_loop rfl hP 60 [24] (fun v pc L st M' N' => (pc = 24 ∧ st = [] ∧ N' = N ∧ ∃ j, j ≤ J ∧ v = J - j ∧ L = [some (.ref 67), some (.int (nI n)), some (.int (nI j))] ∧ bt_tm M M' ∧ bt_mW M' 360 (bt_dn w (w 2) j))) ?_
        rintro v pc L st M' N' ⟨rfl, rfl, hN, j, hj, rfl, rfl, t1, p1⟩
        obtain ⟨d1, d2, d3⟩ := bt_dn_12 w (w 2) j
        obtain ⟨e0, e1, e2, e3, e4, e5, e6, s0, s1, s2, s3, s4, s5, s6, s7, s8, s9, s10, s11⟩ := id p1
        rw [d2 0 (by omega) (by omega)] at e1
        rw [d1] at e5
        rw [d2 1 (by omega) (by omega)] at e2 s11
        rw [d2 0 (by omega) (by omega), d3 2 (by omega)] at s2
        have fin : j = J → Rt (some (.int ((1 : Int32) <<< (M' 67 2 &&& 31) - 1 &&& (nI (bt_mk (bt_dn w (w 2) j 11) (w 12 1)) ^^^ (-1))))) M' N' := fun e => by
          have key := hh M' (bt_tm_fx t1) (bt_tm_I hI t1)
          rw [e2, bt_ev _ (by omega), bt_notN _ (by omega) _ (bt_mk_lt (fun k => bt_wf11 e0 k) _), hN, e]
          exact key
        refine ⟨fun z1 => ?_, fun z1 => ?_⟩
        · rw [nI_leI (by omega) (by omega)] at z1
          exact ⟨360, w 12 1, _, rfl, rfl, by omega, e2, f2, fun k => bt_wf11 e0 k, s11, fin (by omega)⟩
        · rw [nI_leI (by omega) (by omega)] at z1
          refine ⟨360, w 12 4 + j, w 12 0, rfl, rfl, by omega, e5, by omega, e1, f1, ?_⟩
          by_cases hl : w 12 4 + j < w 12 0
          · rw [if_pos hl]
            refine ⟨fun z => absurd z (by decide), fun _ => ?_⟩
            refine ⟨360, w 12 4 + j, w 2 (w 12 4 + j), rfl, rfl, by omega, e5, by omega, s2 _ hl, ?_⟩
            refine ⟨360, w 2 (w 12 4 + j), _, rfl, rfl, by omega, rfl, f9 _, p1, ?_, fun M2 q1 q2 => ?_⟩
            · rw [d1, d2 0 (by omega) (by omega)]; exact hl
            · exact ⟨J - (j + 1), by omega, rfl, rfl, hN, j + 1, by omega, rfl, by rw [nI_1 j], bt_tm_fr t1 (by omega) q2, q1⟩
          · rw [if_neg hl]
            refine ⟨fun _ => ?_, fun z => absurd rfl z⟩
            exact ⟨360, w 12 1, _, rfl, rfl, by omega, e2, f2, fun k => bt_wf11 e0 k, s11, fin (by omega)⟩
      refine ⟨0, 360, rfl, rfl, by omega, rfl, by omega, by omega, fun M3 p2 p3 => ?_⟩
      exact loop _ _ _ _ _ _ ⟨rfl, rfl, rfl, 0, by omega, rfl, rfl, bt_tm_fr bt_tm_rf (by omega) p2, bt_mW_copy a1 p2.1 p3⟩
    · rw [bt_bi_0, bt_inl_c (k := 8) (show (8 : Int64) = lN 8 from rfl) (by omega)] at y
      rw [if_neg y] at h
      exact h M (fun _ _ => rfl) hI
  · cases hf

def f_drift : bt_fn := fun t S => match t, S with
  | [.int s, .int x], (w, im, u, z, q) => some (.int (if bt_in x 2 then (if x = 0 then nI (bt_st (bt_dw w s (w 12 0 - w 12 4))) else nI (bt_mk (bt_dw w s (w 12 0 - w 12 4) 11) (w 12 1))) else -1), (w, im, u, z, q))
  | _, _ => none

theorem bt_dw_12 (w : bt_W) (s : Int32) (j : Nat) : bt_dw w s j 12 4 = w 12 4 + j ∧ (∀ k, k ≠ 4 → k ≠ 5 → bt_dw w s j 12 k = w 12 k) ∧ (∀ f, f < 10 → bt_dw w s j f = w f) := bt_dn_12 w _ j

def bt_CX5_drift : bt_C := [(57, 0, 3, sX5_within), (78, 1, 2, sX4_takeFrom), (172, 1, 2, sX4_driveOne), (259, 1, 1, sX4_sumOfTimes)]
def sX5_drift : bt_Sp := bt_spC f_drift
set_option maxRecDepth 100000 in
theorem mX5_drift : bt_MT bt_TX5_drift bt_FX5 bt_CX5_drift 1 5 sX5_drift := by
  intro as M N Rt h P hP
  obtain ⟨t, S, r, S', rfl, hI, hf, h⟩ := bt_spC_e h
  obtain ⟨w, im, u, z, q⟩ := S
  unfold f_drift at hf
  split at hf
  · next s x _ _ _ _ _ e =>
    cases e
    obtain ⟨rfl, rfl⟩ := bt_some hf
    obtain ⟨a1, a2, a3, a4, a5, a6, a7, a8, a9, a10, a11, a12⟩ := id hI
    obtain ⟨b0, b1, b2, b3, b4, b5, b6, b7, b8, b9, b10⟩ := id a2
    obtain ⟨hw, h8, h9, h10, h11, h12, h13, h14, h15, h16, h17, r1, r2, r3, r4, r5, r6, r7, r8⟩ := id a1
    obtain ⟨f1, f2, f3, f4, f5, f6, f7, f8, f9, f10, f11, f12, f13, f14, f15, f16, f17, f18⟩ := id hw
    refine bt_go rfl hP 60 [33] P (fun _ _ _ _ _ h => h) ?_
    refine ⟨fun y => ?_, fun y => ?_⟩
    · rw [bt_bi_n0, bt_in_c (k := 1) (show (1 : Int32) = nI 1 from rfl) (by omega)] at y
      rw [if_pos y] at h
      have hh := h
      have loop : ∀ v pc L st M' N', (pc = 33 ∧ st = [] ∧ N' = N ∧ ∃ j, j ≤ w 12 0 - w 12 4 ∧ v = w 12 0 - w 12 4 - j ∧ L = [some (.ref 0), some (.int s), some (.int x), some (.int (bt_lsq s j)), some (.int (nI (w 12 4 + j)))] ∧ bt_tq M M' ∧ bt_cW M' 11 (bt_dw w s j)) → P pc L st M' N' := by
        refine bt_loop rfl hP 60 [33] (fun v pc L st M' N' => (pc = 33 ∧ st = [] ∧ N' = N ∧ ∃ j, j ≤ w 12 0 - w 12 4 ∧ v = w 12 0 - w 12 4 - j ∧ L = [some (.ref 0), some (.int s), some (.int x), some (.int (bt_lsq s j)), some (.int (nI (w 12 4 + j)))] ∧ bt_tq M M' ∧ bt_cW M' 11 (bt_dw w s j))) ?_
        rintro v pc L st M' N' ⟨rfl, rfl, hN, j, hj, rfl, rfl, t1, p1⟩
        obtain ⟨d1, d2, d3⟩ := bt_dw_12 w s j
        have e8 : M' 2 8 = nI (w 12 0) := by rw [t1 2 (by omega)]; exact h8
        obtain ⟨e0, k8, k9, k10, k11, k12, k13, rest⟩ := id p1
        rw [d2 1 (by omega) (by omega)] at k13
        refine ⟨fun z1 => ?_, fun z1 => ?_⟩
        · rw [e8, nI_leI (by omega) (by omega)] at z1
          have e : j = w 12 0 - w 12 4 := by omega
          have key := hh M' N' (bt_tq_fr t1) (bt_tq_I hI t1)
          rw [← e] at key
          refine ⟨fun z2 => ?_, fun z2 => ?_⟩
          · rw [if_neg z2, ← k13] at key
            exact key
          · rw [if_pos z2] at key
            exact ⟨_, Or.inr rfl, p1, key⟩
        · rw [e8, nI_leI (by omega) (by omega)] at z1
          refine ⟨by decide, ?_⟩
          refine ⟨_, bt_dg (bt_lsq s (j + 1)), Or.inr rfl, p1, by rw [d1, d2 0 (by omega) (by omega)]; omega, ?_, bt_dg_le _, fun M2 q1 q2 => ?_⟩
          · rw [bt_dg_c, bt_dg_r _ (by omega)]
            rfl
          · exact ⟨w 12 0 - w 12 4 - (j + 1), by omega, rfl, rfl, hN, j + 1, by omega, rfl, by rw [bt_nI_add3]; rfl, bt_tq_frm t1 q2, by rw [bt_dw_s]; exact q1⟩
      refine ⟨w, by unfold bt_tf; decide, a1, fun M1 c1 c2 => ?_⟩
      have t1 : bt_tq M M1 := bt_tq_out bt_tq_rf c2
      have e16 : M1 2 16 = nI (w 12 4) := by rw [t1 2 (by omega)]; exact h16
      exact loop _ _ _ _ _ _ ⟨rfl, rfl, rfl, 0, by omega, rfl, by rw [e16]; rfl, t1, c1⟩
    · rw [bt_bi_0, bt_in_c (k := 1) (show (1 : Int32) = nI 1 from rfl) (by omega)] at y
      rw [if_neg y] at h
      exact h M N (fun _ _ => rfl) hI
  · cases hf

def bt_CX6_drift : bt_C := [(46, 0, 3, sX6_in), (199, 1, 3, sX6_copies), (187, 1, 2, sX6_areLeft), (190, 1, 3, sX6_driveOn), (208, 1, 2, sX6_timesOn), (146, 1, 2, sX6_pastOn)]
def sX6_drift : bt_Sp := bt_spM f_drift
set_option maxRecDepth 100000 in
theorem mX6_drift : bt_MT bt_TX6_drift bt_FX6 bt_CX6_drift 1 4 sX6_drift := by
  intro as M N Rt h P hP
  obtain ⟨t, S, r, S', rfl, hI, hf, h⟩ := bt_spM_e h
  obtain ⟨w, im, u, z, q⟩ := S
  unfold f_drift at hf
  split at hf
  · next s x _ _ _ _ _ e =>
    cases e
    obtain ⟨rfl, rfl⟩ := bt_some hf
    obtain ⟨a1, a2, a3, a4, a5, a6, a7, a8, a9, a10, a11, a12, a13, a14, a15⟩ := id hI
    obtain ⟨b0, b1, b2, b3, b4, b5, b6, b7, b8, b9, b10⟩ := id a2
    obtain ⟨hw, g1, g2, g3, g4, g5, g6, r0, r1, r2, r3, r4, r5, r6, c7, c8, c9, c10, c11⟩ := id a1
    obtain ⟨f1, f2, f3, f4, f5, f6, f7, f8, f9, f10, f11, f12, f13, f14, f15, f16, f17, f18⟩ := id hw
    simp only [Nat.zero_add] at g3 g4 g5 g6 r0 r1 r2 r3 r4 r5 r6 c7 c8 c9 c10
    refine bt_go rfl hP 60 [22] P (fun _ _ _ _ _ h => h) ?_
    refine ⟨fun y => ?_, fun y => ?_⟩
    · rw [bt_bi_n0, bt_inl_c (k := 1) (show (1 : Int64) = lN 1 from rfl) (by omega)] at y
      rw [if_pos y] at h
      have hh := h
      have loop : ∀ v pc L st M' N', (pc = 22 ∧ st = [] ∧ N' = N ∧ ∃ j, j ≤ w 12 0 - w 12 4 ∧ v = w 12 0 - w 12 4 - j ∧ L = [some (.ref 67), some (.int s), some (.int x), some (.int (bt_lsq s j))] ∧ bt_tm M M' ∧ bt_mW M' 360 (bt_dw w s j)) → P pc L st M' N' := by
        refine bt_loop rfl hP 60 [22] (fun v pc L st M' N' => (pc = 22 ∧ st = [] ∧ N' = N ∧ ∃ j, j ≤ w 12 0 - w 12 4 ∧ v = w 12 0 - w 12 4 - j ∧ L = [some (.ref 67), some (.int s), some (.int x), some (.int (bt_lsq s j))] ∧ bt_tm M M' ∧ bt_mW M' 360 (bt_dw w s j))) ?_
        rintro v pc L st M' N' ⟨rfl, rfl, hN, j, hj, rfl, rfl, t1, p1⟩
        obtain ⟨d1, d2, d3⟩ := bt_dw_12 w s j
        obtain ⟨e0, e1, e2, e3, e4, e5, e6, s0, s1, s2, s3, s4, s5, s6, s7, s8, s9, s10, s11⟩ := id p1
        rw [d2 0 (by omega) (by omega)] at e1
        rw [d1] at e5
        rw [d2 1 (by omega) (by omega)] at e2 s11
        refine ⟨360, w 12 4 + j, w 12 0, rfl, rfl, by omega, e5, by omega, e1, f1, ?_⟩
        by_cases hl : w 12 4 + j < w 12 0
        · rw [if_pos hl]
          refine ⟨fun z => absurd z (by decide), fun _ => ⟨by decide, ?_⟩⟩
          refine ⟨360, bt_dg (bt_lsq s (j + 1)), _, rfl, rfl, by omega, ?_, bt_dg_le _, p1, ?_, fun M2 q1 q2 => ?_⟩
          · rw [bt_and15, bt_dg_r _ (by omega)]
            rfl
          · rw [d1, d2 0 (by omega) (by omega)]; exact hl
          · exact ⟨w 12 0 - w 12 4 - (j + 1), by omega, rfl, rfl, hN, j + 1, by omega, rfl, rfl, bt_tm_fr t1 (by omega) q2, by rw [bt_dw_s]; exact q1⟩
        · rw [if_neg hl]
          have e : j = w 12 0 - w 12 4 := by omega
          have key := hh M' (bt_tm_fx t1) (bt_tm_I hI t1)
          rw [← e, ← hN] at key
          refine ⟨fun _ => ?_, fun z => absurd rfl z⟩
          refine ⟨fun z2 => ?_, fun z2 => ?_⟩
          · rw [if_neg z2] at key
            exact ⟨360, w 12 1, _, rfl, rfl, by omega, e2, f2, fun k => bt_wf11 e0 k, s11, key⟩
          · rw [if_pos z2] at key
            exact ⟨360, _, rfl, rfl, by omega, p1, key⟩
      refine ⟨0, 360, rfl, rfl, by omega, rfl, by omega, by omega, fun M3 p2 p3 => ?_⟩
      exact loop _ _ _ _ _ _ ⟨rfl, rfl, rfl, 0, by omega, rfl, rfl, bt_tm_fr bt_tm_rf (by omega) p2, bt_mW_copy a1 p2.1 p3⟩
    · rw [bt_bi_0, bt_inl_c (k := 1) (show (1 : Int64) = lN 1 from rfl) (by omega)] at y
      rw [if_neg y] at h
      exact h M (fun _ _ => rfl) hI
  · cases hf
end
section
/-! CALLS, BOTH SIDES: who is ahead, what is lost -/
def bt_cj (w : bt_W) (j k : Nat) : Nat := bt_cm (bt_dn w (w 2) j) (bt_dn w (w 2) j 12 4) (w 2 (w 12 4 + j)) (bt_dn w (w 2) j 11) k
def bt_ah (w : bt_W) (k : Nat) : Nat → Int32
  | 0 => -4
  | j + 1 => if bt_cj w j k = 1 then nI (w 12 4 + j) else bt_ah w k j
theorem bt_dn_11 (w : bt_W) (j k : Nat) : bt_dn w (w 2) (j + 1) 11 k = bt_dn w (w 2) j 11 k + bt_cj w j k := by
  simp [bt_dn, bt_dv, bt_cj]
theorem bt_dn_p1 {w : bt_W} {j k : Nat} (h : bt_dn w (w 2) j 11 k = 1) : ∀ d, bt_dn w (w 2) (j + d) 11 k = 1
  | 0 => h
  | d + 1 => by
    have ih := bt_dn_p1 h d
    rw [← Nat.add_assoc, bt_dn_11, ih]
    unfold bt_cj
    rw [bt_cm_ps _ _ _ _ _ ih]
theorem bt_ah_fix {w : bt_W} (hw : bt_wf w) {j k : Nat} (hj : w 12 4 + j ≤ w 12 0) (h : bt_cj w j k = 1) : ∀ d, bt_ah w k (j + 1 + d) = nI (w 12 4 + j)
  | 0 => by rw [Nat.add_zero, bt_ah, if_pos h]
  | d + 1 => by
    have h1 := bt_wf11 (bt_dn_wf (w 2) hw j hj) k
    have h0 : bt_dn w (w 2) j 11 k = 0 := by
      by_cases c : bt_dn w (w 2) j 11 k = 1
      · have := bt_cm_ps (bt_dn w (w 2) j) (bt_dn w (w 2) j 12 4) (w 2 (w 12 4 + j)) (bt_dn w (w 2) j 11) k c
        unfold bt_cj at h
        omega
      · omega
    have h2 : bt_dn w (w 2) (j + 1) 11 k = 1 := by rw [bt_dn_11, h0, h]
    have h3 := bt_dn_p1 h2 d
    have h4 : ¬ bt_cj w (j + 1 + d) k = 1 := by
      unfold bt_cj
      rw [bt_cm_ps _ _ _ _ _ h3]
      omega
    rw [← Nat.add_assoc, bt_ah, if_neg h4]
    exact bt_ah_fix hw hj h d

def f_ahead : bt_fn := fun t S => match t, S with
  | [.int k, .int x], (w, im, u, z, q) => some (.int (if (bt_in k (w 12 1) ∧ bt_in x 2) then (if x = 0 then nI (bt_de w 10 k.toNatClampNeg) else bt_ah w k.toNatClampNeg (w 12 0 - w 12 4)) else -1), (w, im, u, z, q))
  | _, _ => none

def bt_CX5_ahead : bt_C := [(139, 1, 2, sX5_isCar), (57, 0, 3, sX5_within), (78, 1, 2, sX4_takeFrom), (175, 1, 1, sX4_driveToEnd), (172, 1, 2, sX4_driveOne), (129, 0, 2, sX5_bit)]
def sX5_ahead : bt_Sp := bt_spC f_ahead
set_option maxRecDepth 100000 in
theorem mX5_ahead : bt_MT bt_TX5_ahead bt_FX5 bt_CX5_ahead 1 4 sX5_ahead := by
  intro as M N Rt h P hP
  obtain ⟨t, S, r, S', rfl, hI, hf, h⟩ := bt_spC_e h
  obtain ⟨w, im, u, z, q⟩ := S
  unfold f_ahead at hf
  split at hf
  · next k x _ _ _ _ _ e =>
    cases e
    obtain ⟨rfl, rfl⟩ := bt_some hf
    obtain ⟨a1, a2, a3, a4, a5, a6, a7, a8, a9, a10, a11, a12⟩ := id hI
    obtain ⟨b0, b1, b2, b3, b4, b5, b6, b7, b8, b9, b10⟩ := id a2
    obtain ⟨hw, h8, h9, h10, h11, h12, h13, h14, h15, h16, h17, r1, r2, r3, r4, r5, r6, r7, r8⟩ := id a1
    obtain ⟨f1, f2, f3, f4, f5, f6, f7, f8, f9, f10, f11, f12, f13, f14, f15, f16, f17, f18⟩ := id hw
    have hbad : ¬ (bt_in k (w 12 1) ∧ bt_in x 2) → Rt (some (.int (-1))) M N := fun y => by
      rw [if_neg y] at h
      exact h M N (fun _ _ => rfl) hI
    refine bt_go rfl hP 60 [60] P (fun _ _ _ _ _ h => h) ?_
    refine ⟨w 12 1, rfl, h12, f2, ⟨fun y => ?_, fun y => ⟨fun y2 => ?_, fun y2 => ?_⟩⟩⟩
    · rw [bt_bi_0] at y
      exact hbad (fun c => y c.1)
    rotate_left
    · rw [bt_bi_0, bt_in_c (k := 1) (show (1 : Int32) = nI 1 from rfl) (by omega)] at y2
      exact hbad (fun c => y2 c.2)
    · rw [bt_bi_n0] at y
      rw [bt_bi_n0, bt_in_c (k := 1) (show (1 : Int32) = nI 1 from rfl) (by omega)] at y2
      have ok : (bt_in k (w 12 1) ∧ bt_in x 2) := ⟨y, y2⟩
      rw [if_pos ok] at h
      obtain ⟨k, hk, rfl⟩ := bt_in_e y
      rw [bt_clm (by omega)] at h
      have hh := h
      have loop : ¬ x = 0 → ∀ v pc L st M' N', (pc = 60 ∧ st = [] ∧ N' = N ∧ ∃ j, j ≤ w 12 0 - w 12 4 ∧ v = w 12 0 - w 12 4 - j ∧ L = [some (.ref 0), some (.int (nI k)), some (.int x), some (.int (nI (w 12 4 + j)))] ∧ bt_tq M M' ∧ bt_cW M' 11 (bt_dn w (w 2) j) ∧ bt_ah w k j = -4) → P pc L st M' N' := by
        intro hx
        rw [if_neg hx] at hh
        refine bt_loop rfl hP 60 [60] (fun v pc L st M' N' => (pc = 60 ∧ st = [] ∧ N' = N ∧ ∃ j, j ≤ w 12 0 - w 12 4 ∧ v = w 12 0 - w 12 4 - j ∧ L = [some (.ref 0), some (.int (nI k)), some (.int x), some (.int (nI (w 12 4 + j)))] ∧ bt_tq M M' ∧ bt_cW M' 11 (bt_dn w (w 2) j) ∧ bt_ah w k j = -4)) ?_
        rintro v pc L st M' N' ⟨rfl, rfl, hN, j, hj, rfl, rfl, t1, p1, p2⟩
        obtain ⟨d1, d2, d3⟩ := bt_dn_12 w (w 2) j
        have e8 : M' 2 8 = nI (w 12 0) := by rw [t1 2 (by omega)]; exact h8
        obtain ⟨e0, k8, k9, k10, k11, k12, k13, k14, k15, k16, k17, s1, s2, s3, rest⟩ := id p1
        rw [d2 0 (by omega) (by omega), d3 2 (by omega)] at s3
        refine ⟨fun z1 => ?_, fun z1 => ?_⟩
        · rw [e8, nI_leI (by omega) (by omega)] at z1
          have e : j = w 12 0 - w 12 4 := by omega
          have key := hh M' N' (bt_tq_fr t1) (bt_tq_I hI t1)
          rw [← e, p2] at key
          exact key
        · rw [e8, nI_leI (by omega) (by omega)] at z1
          refine ⟨_, rfl, w 12 4 + j, rfl, by omega, ?_⟩
          refine ⟨_, w 2 (w 12 4 + j), Or.inr rfl, p1, by rw [d1, d2 0 (by omega) (by omega)]; omega, s3 _ (by omega), f9 _, fun M2 q1 q2 => ?_⟩
          have t2 := bt_tq_frm t1 q2
          have eb := bt_bitN (bt_cm_b1 (bt_dn w (w 2) j) (bt_dn w (w 2) j 12 4) (w 2 (w 12 4 + j)) (bt_dn w (w 2) j 11)) (n := bt_dn w (w 2) j 12 1) (k := k) (by rw [d2 1 (by omega) (by omega)]; omega) (by omega)
          rw [if_pos (by rw [d2 1 (by omega) (by omega)]; exact hk)] at eb
          have eb1 : bt_cj w j k ≤ 1 := bt_cm_b1 _ _ _ _ k
          refine ⟨fun z2 => ?_, fun z2 => ?_⟩
          · have z3 : ¬ bt_cj w j k = 1 := fun c => z2 (by rw [eb]; exact congrArg nI c)
            exact ⟨w 12 0 - w 12 4 - (j + 1), by omega, rfl, rfl, hN, j + 1, by omega, rfl, by rw [bt_nI_add3], t2, q1, by rw [bt_ah, if_neg z3]; exact p2⟩
          · have z3 : bt_cj w j k = 1 := by
              rw [eb] at z2
              exact (nI_eq (b := 1) (by have := eb1; unfold bt_cj at this; omega) (by omega)).mp z2
            have key := hh M2 N' (bt_tq_fr t2) (bt_tq_I hI t2)
            rw [show w 12 0 - w 12 4 = j + 1 + (w 12 0 - w 12 4 - (j + 1)) by omega, bt_ah_fix hw (by omega) z3] at key
            exact key
      refine ⟨w, by unfold bt_tf; decide, a1, fun M1 c1 c2 => ?_⟩
      have t1 : bt_tq M M1 := bt_tq_out bt_tq_rf c2
      have e16 : M1 2 16 = nI (w 12 4) := by rw [t1 2 (by omega)]; exact h16
      refine ⟨fun z1 => ?_, fun z1 => ?_⟩
      · exact loop z1 _ _ _ _ _ _ ⟨rfl, rfl, rfl, 0, by omega, rfl, by rw [e16]; rfl, t1, c1, rfl⟩
      · rw [if_pos z1] at h
        refine ⟨w, Or.inr rfl, c1, fun M2 d1 d2 => ?_⟩
        have t2 := bt_tq_frm t1 d2
        have e1 := bt_cW_time d1 (k := k) (by rw [bt_de_12 w 1 (by omega) (by omega)]; exact hk)
        refine ⟨_, rfl, k, rfl, by omega, ?_⟩
        have key := h M2 N (bt_tq_fr t2) (bt_tq_I hI t2)
        rw [← e1] at key
        exact key
  · cases hf

def bt_CX6_ahead : bt_C := [(153, 1, 2, sX6_isCar), (46, 0, 3, sX6_in), (199, 1, 3, sX6_copies), (187, 1, 2, sX6_areLeft), (196, 1, 2, sX6_ownGap), (190, 1, 3, sX6_driveOn)]
def sX6_ahead : bt_Sp := bt_spM f_ahead
set_option maxRecDepth 100000 in
theorem mX6_ahead : bt_MT bt_TX6_ahead bt_FX6 bt_CX6_ahead 1 6 sX6_ahead := by
  intro as M N Rt h P hP
  obtain ⟨t, S, r, S', rfl, hI, hf, h⟩ := bt_spM_e h
  obtain ⟨w, im, u, z, q⟩ := S
  unfold f_ahead at hf
  split at hf
  · next k x _ _ _ _ _ e =>
    cases e
    obtain ⟨rfl, rfl⟩ := bt_some hf
    obtain ⟨a1, a2, a3, a4, a5, a6, a7, a8, a9, a10, a11, a12, a13, a14, a15⟩ := id hI
    obtain ⟨b0, b1, b2, b3, b4, b5, b6, b7, b8, b9, b10⟩ := id a2
    obtain ⟨hw, g1, g2, g3, g4, g5, g6, r0, r1, r2, r3, r4, r5, r6, c7, c8, c9, c10, c11⟩ := id a1
    obtain ⟨f1, f2, f3, f4, f5, f6, f7, f8, f9, f10, f11, f12, f13, f14, f15, f16, f17, f18⟩ := id hw
    simp only [Nat.zero_add] at g3 g4 g5 g6 r0 r1 r2 r3 r4 r5 r6 c7 c8 c9 c10
    have hbad : ¬ (bt_in k (w 12 1) ∧ bt_in x 2) → Rt (some (.int (-1))) M N := fun y => by
      rw [if_neg y] at h
      exact h M (fun _ _ => rfl) hI
    refine bt_go rfl hP 60 [31] P (fun _ _ _ _ _ h => h) ?_
    refine ⟨w 12 1, rfl, g2, f2, ⟨fun y => ?_, fun y => ⟨fun y2 => ?_, fun y2 => ?_⟩⟩⟩
    · rw [bt_bi_0] at y
      exact hbad (fun c => y c.1)
    rotate_left
    · rw [bt_bi_0, bt_inl_c (k := 1) (show (1 : Int64) = lN 1 from rfl) (by omega)] at y2
      exact hbad (fun c => y2 c.2)
    · rw [bt_bi_n0] at y
      rw [bt_bi_n0, bt_inl_c (k := 1) (show (1 : Int64) = lN 1 from rfl) (by omega)] at y2
      have ok : (bt_in k (w 12 1) ∧ bt_in x 2) := ⟨y, y2⟩
      rw [if_pos ok] at h
      obtain ⟨k, hk, rfl⟩ := bt_in_e y
      rw [bt_clm (by omega)] at h
      have hh := h
      have loop : ∀ v pc L st M' N', (pc = 31 ∧ st = [] ∧ N' = N ∧ ∃ j y4 y5, j ≤ w 12 0 - w 12 4 ∧ v = w 12 0 - w 12 4 - j ∧ L = [some (.ref 67), some (.int (nI k)), some (.int x), some (.int (bt_ah w k j)), y4, y5] ∧ bt_tm M M' ∧ bt_mW M' 360 (bt_dn w (w 2) j)) → P pc L st M' N' := by
        refine bt_loop rfl hP 60 [31] (fun v pc L st M' N' => (pc = 31 ∧ st = [] ∧ N' = N ∧ ∃ j y4 y5, j ≤ w 12 0 - w 12 4 ∧ v = w 12 0 - w 12 4 - j ∧ L = [some (.ref 67), some (.int (nI k)), some (.int x), some (.int (bt_ah w k j)), y4, y5] ∧ bt_tm M M' ∧ bt_mW M' 360 (bt_dn w (w 2) j))) ?_
        rintro v pc L st M' N' ⟨rfl, rfl, hN, j, y4, y5, hj, rfl, rfl, t1, p1⟩
        obtain ⟨d1, d2, d3⟩ := bt_dn_12 w (w 2) j
        obtain ⟨e0, e1, e2, e3, e4, e5, e6, s0, s1, s2, s3, s4, s5, s6, s7, s8, s9, s10, s11⟩ := id p1
        rw [d2 0 (by omega) (by omega)] at e1
        rw [d1] at e5
        rw [d2 1 (by omega) (by omega)] at s10
        rw [d2 0 (by omega) (by omega), d3 2 (by omega)] at s2
        refine ⟨360, w 12 4 + j, w 12 0, rfl, rfl, by omega, e5, by omega, e1, f1, ?_⟩
        by_cases hl : w 12 4 + j < w 12 0
        · rw [if_pos hl]
          refine ⟨fun z => absurd z (by decide), fun _ => ?_⟩
          refine ⟨_, rfl, 360 + 88, rfl, by omega, ?_⟩
          refine ⟨360, w 12 4 + j, w 2 (w 12 4 + j), rfl, rfl, by omega, e5, by omega, s2 _ hl, ?_⟩
          refine ⟨360, w 2 (w 12 4 + j), _, rfl, rfl, by omega, rfl, f9 _, p1, ?_, fun M2 q1 q2 => ?_⟩
          · rw [d1, d2 0 (by omega) (by omega)]; exact hl
          · have eb := bt_bitN (bt_cm_b1 (bt_dn w (w 2) j) (bt_dn w (w 2) j 12 4) (w 2 (w 12 4 + j)) (bt_dn w (w 2) j 11)) (n := bt_dn w (w 2) j 12 1) (k := k) (by rw [d2 1 (by omega) (by omega)]; omega) (by omega)
            rw [if_pos (by rw [d2 1 (by omega) (by omega)]; exact hk)] at eb
            have eb1 : bt_cj w j k ≤ 1 := bt_cm_b1 _ _ _ _ k
            refine ⟨fun z2 => ?_, fun z2 => ?_⟩
            · have z3 : ¬ bt_cj w j k = 1 := fun c => z2 (by rw [eb]; exact congrArg nI c)
              have ea : bt_ah w k (j + 1) = bt_ah w k j := by rw [bt_ah, if_neg z3]
              exact ⟨w 12 0 - w 12 4 - (j + 1), by omega, rfl, rfl, hN, j + 1, _, _, by omega, rfl, by rw [ea], bt_tm_fr t1 (by omega) q2, q1⟩
            · have z3 : bt_cj w j k = 1 := by
                rw [eb] at z2
                exact (nI_eq (b := 1) (by have := eb1; unfold bt_cj at this; omega) (by omega)).mp z2
              have ea : bt_ah w k (j + 1) = nI (w 12 4 + j) := by rw [bt_ah, if_pos z3]
              exact ⟨w 12 0 - w 12 4 - (j + 1), by omega, rfl, rfl, hN, j + 1, _, _, by omega, rfl, by rw [ea, ← e5], bt_tm_fr t1 (by omega) q2, q1⟩
        · rw [if_neg hl]
          have e : j = w 12 0 - w 12 4 := by omega
          have key := hh M' (bt_tm_fx t1) (bt_tm_I hI t1)
          unfold bt_de at key
          rw [← e, ← hN] at key
          refine ⟨fun _ => ?_, fun z => absurd rfl z⟩
          refine ⟨fun z2 => ?_, fun z2 => ?_⟩
          · rw [if_neg z2] at key
            exact key
          · rw [if_pos z2, ← s10 k hk] at key
            exact ⟨_, rfl, 360 + 58 + 5 * k + 3, by simp only [bt_lit, pk_mul, nI_add], by omega, key⟩
      refine ⟨0, 360, rfl, rfl, by omega, rfl, by omega, by omega, fun M3 p2 p3 => ?_⟩
      exact loop _ _ _ _ _ _ ⟨rfl, rfl, rfl, 0, none, none, by omega, rfl, rfl, bt_tm_fr bt_tm_rf (by omega) p2, bt_mW_copy a1 p2.1 p3⟩
  · cases hf
end
section
/-! CALLS, BOTH SIDES: what is lost -/
def bt_wa (w : bt_W) : bt_W := fun f k => if f = 11 then 1 else w f k
def bt_s9 (w : bt_W) : Nat → Nat
  | 0 => 0
  | k + 1 => bt_s9 w k + w 9 k
theorem bt_wa_n (w : bt_W) {f : Nat} (h : f ≠ 11) : bt_wa w f = w f := by
  funext k
  simp [bt_wa, h]
theorem bt_wa_wf {w : bt_W} (h : bt_wf w) : bt_wf (bt_wa w) := by
  obtain ⟨f1, f2, f3, f4, f5, f6, f7, f8, f9, f10, f11, f12, f13, f14, f15, f16, f17, f18⟩ := h
  unfold bt_wf
  rw [bt_wa_n w (f := 12) (by omega), bt_wa_n w (f := 0) (by omega), bt_wa_n w (f := 1) (by omega), bt_wa_n w (f := 2) (by omega), bt_wa_n w (f := 3) (by omega), bt_wa_n w (f := 4) (by omega), bt_wa_n w (f := 5) (by omega), bt_wa_n w (f := 6) (by omega), bt_wa_n w (f := 7) (by omega), bt_wa_n w (f := 8) (by omega), bt_wa_n w (f := 9) (by omega), bt_wa_n w (f := 10) (by omega)]
  exact ⟨f1, f2, f3, f4, f5, f6, f7, f8, f9, f10, f11, f12, f13, f14, f15, f16, f17, fun k => by simp [bt_wa]⟩
theorem bt_cW_all {M M' : bt_M} {c : Nat} {w : bt_W} (hw : bt_cW M c w) (h1 : ∀ x : Nat, x ≠ c → M' x = M x) (h2 : ∀ i, i ≠ 13 → M' c i = M c i) (h3 : M' c 13 = nI (2 ^ w 12 1 - 1)) : bt_cW M' c (bt_wa w) := by
  obtain ⟨hf, g8, g9, g10, g11, g12, g13, g14, g15, g16, g17, r1, r2, r3, r4, r5, r6, r7, r8⟩ := hw
  unfold bt_cW
  rw [bt_wa_n w (f := 12) (by omega), bt_wa_n w (f := 0) (by omega), bt_wa_n w (f := 1) (by omega), bt_wa_n w (f := 2) (by omega), bt_wa_n w (f := 3) (by omega), bt_wa_n w (f := 4) (by omega), bt_wa_n w (f := 5) (by omega), bt_wa_n w (f := 6) (by omega), bt_wa_n w (f := 7) (by omega), bt_wa_n w (f := 8) (by omega), bt_wa_n w (f := 9) (by omega), bt_wa_n w (f := 10) (by omega)]
  have e11 : bt_wa w 11 = fun _ => 1 := by
    funext k
    simp [bt_wa]
  rw [e11, bt_mk_1, h2 8 (by omega), h2 9 (by omega), h2 10 (by omega), h2 11 (by omega), h2 12 (by omega), h2 14 (by omega), h2 15 (by omega), h2 16 (by omega), h2 17 (by omega), h1 (c + 1) (by omega), h1 (c + 2) (by omega), h1 (c + 3) (by omega), h1 (c + 4) (by omega), h1 (c + 5) (by omega), h1 (c + 6) (by omega), h1 (c + 7) (by omega), h1 (c + 8) (by omega)]
  exact ⟨bt_wa_wf hf, g8, g9, g10, g11, g12, h3, g14, g15, g16, g17, r1, r2, r3, r4, r5, r6, r7, r8⟩
theorem bt_dn_all (w : bt_W) (gf : Nat → Nat) : ∀ j k, bt_dn (bt_wa w) gf j 11 k = 1 ∧ bt_dn (bt_wa w) gf j 10 k = w 10 k + bt_ml w (w 12 4) j * w 9 k
  | 0, k => by simp [bt_dn, bt_wa, bt_ml]
  | j + 1, k => by
    obtain ⟨h1, h2⟩ := bt_dn_all w gf j k
    obtain ⟨d1, d2, d3⟩ := bt_dn_12 (bt_wa w) gf j
    have e12 : bt_wa w 12 = w 12 := bt_wa_n w (by omega)
    have hc := bt_cm_ps (bt_dn (bt_wa w) gf j) (bt_dn (bt_wa w) gf j 12 4) (gf (bt_wa w 12 4 + j)) (bt_dn (bt_wa w) gf j 11) k h1
    constructor
    · show bt_dn (bt_wa w) gf j 11 k + bt_cm (bt_dn (bt_wa w) gf j) (bt_dn (bt_wa w) gf j 12 4) (gf (bt_wa w 12 4 + j)) (bt_dn (bt_wa w) gf j 11) k = 1
      rw [h1, hc]
    · show bt_dn (bt_wa w) gf j 10 k + bt_mn (bt_dn (bt_wa w) gf j) (bt_dn (bt_wa w) gf j 12 4) k (bt_dn (bt_wa w) gf j 11 k + bt_cm (bt_dn (bt_wa w) gf j) (bt_dn (bt_wa w) gf j 12 4) (gf (bt_wa w 12 4 + j)) (bt_dn (bt_wa w) gf j 11) k) = _
      rw [h1, hc, h2, d1, e12]
      unfold bt_mn
      rw [if_pos rfl, d3 0 (by omega), d3 9 (by omega), bt_wa_n w (by omega), bt_wa_n w (by omega), bt_ml, Nat.add_mul, Nat.add_assoc]
theorem bt_sumk_all (w v : bt_W) (a : Nat) (h : ∀ k, v 10 k = w 10 k + a * w 9 k) : ∀ m, bt_sumk v m = bt_sumk w m + a * bt_s9 w m
  | 0 => by simp [bt_sumk, bt_s9]
  | m + 1 => by
    rw [bt_sumk, bt_sumk, bt_s9, bt_sumk_all w v a h m, h m, Nat.mul_add]
    omega
theorem bt_st_all (w : bt_W) : bt_st (bt_de (bt_wa w)) = bt_st w + bt_ml w (w 12 4) (w 12 0 - w 12 4) * bt_s9 w (w 12 1) := by
  have e12 : bt_wa w 12 = w 12 := bt_wa_n w (by omega)
  unfold bt_st
  rw [bt_de_12 _ 1 (by omega) (by omega), e12]
  apply bt_sumk_all
  intro k
  unfold bt_de
  rw [e12]
  exact (bt_dn_all w _ _ k).2
theorem bt_subsub (a b c : Int32) : a - b - c = a - (b + c) := by
  apply Int32.toBitVec_inj.mp
  simp only [Int32.toBitVec_sub, Int32.toBitVec_add]
  rw [BitVec.sub_eq_add_neg, BitVec.sub_eq_add_neg, BitVec.sub_eq_add_neg, BitVec.neg_add, BitVec.sub_eq_add_neg, BitVec.add_assoc]
theorem bt_mW_pace {M : bt_M} {p k : Nat} {w : bt_W} (h : bt_mW M p w) (hk : k < w 12 1) : M 68 (p + 58 + 5 * k + 2) = nI (w 9 k) := by
  obtain ⟨hf, g1, g2, g3, g4, g5, g6, r0, r1, r2, r3, r4, r5, r6, c7, c8, c9, c10, c11⟩ := h
  exact c9 k hk

def f_lost : bt_fn := fun t S => match t, S with
  | [], (w, im, u, z, q) => some (.int (nI (bt_st (bt_de w)) - nI (bt_st (bt_de (bt_wa w)))), (w, im, u, z, q))
  | _, _ => none

def bt_CX5_lost : bt_C := [(78, 1, 2, sX4_takeFrom), (187, 1, 1, sX4_everybody), (175, 1, 1, sX4_driveToEnd)]
def sX5_lost : bt_Sp := bt_spC f_lost
set_option maxRecDepth 100000 in
theorem mX5_lost : bt_MT bt_TX5_lost bt_FX5 bt_CX5_lost 1 2 sX5_lost := by
  intro as M N Rt h P hP
  obtain ⟨t, S, r, S', rfl, hI, hf, h⟩ := bt_spC_e h
  obtain ⟨w, im, u, z, q⟩ := S
  unfold f_lost at hf
  split at hf
  · next _ _ _ _ _ e =>
    cases e
    obtain ⟨rfl, rfl⟩ := bt_some hf
    obtain ⟨a1, a2, a3, a4, a5, a6, a7, a8, a9, a10, a11, a12⟩ := id hI
    obtain ⟨b0, b1, b2, b3, b4, b5, b6, b7, b8, b9, b10⟩ := id a2
    obtain ⟨hw, h8, h9, h10, h11, h12, h13, h14, h15, h16, h17, r1, r2, r3, r4, r5, r6, r7, r8⟩ := id a1
    obtain ⟨f1, f2, f3, f4, f5, f6, f7, f8, f9, f10, f11, f12, f13, f14, f15, f16, f17, f18⟩ := id hw
    refine bt_go0 rfl hP 60 ?_
    refine ⟨w, by unfold bt_tf; decide, a1, fun M1 c1 c2 => ?_⟩
    have t1 : bt_tq M M1 := bt_tq_out bt_tq_rf c2
    refine ⟨w 12 1, Or.inr rfl, c1.2.2.2.2.2.1, f2, ?_⟩
    intro M2 e2
    have t2 : bt_tq M M2 := by rw [e2]; exact bt_tq_up t1 (by omega) (by omega)
    have p2 : bt_cW M2 11 (bt_wa w) := bt_cW_all c1 (fun x hx => by rw [e2, bt_up_n hx]) (fun i hi => by rw [e2, bt_up_s, pk_un hi]) (by rw [e2, bt_up_s]; exact pk_us)
    refine ⟨_, Or.inr rfl, p2, fun M3 q1 q2 => ?_⟩
    have t3 := bt_tq_frm t2 q2
    refine ⟨w, by unfold bt_tf; decide, bt_tq_live t3 a1, fun M4 c3 c4 => ?_⟩
    have t4 := bt_tq_out t3 c4
    refine ⟨_, Or.inr rfl, c3, fun M5 q3 q4 => ?_⟩
    have t5 := bt_tq_frm t4 q4
    exact h M5 N (bt_tq_fr t5) (bt_tq_I hI t5)
  · cases hf

def bt_CX6_lost : bt_C := [(205, 1, 2, sX6_triesFrom), (208, 1, 2, sX6_timesOn), (211, 1, 1, sX6_milesLeft)]
def sX6_lost : bt_Sp := bt_spM f_lost
set_option maxRecDepth 100000 in
theorem mX6_lost : bt_MT bt_TX6_lost bt_FX6 bt_CX6_lost 1 3 sX6_lost := by
  intro as M N Rt h P hP
  obtain ⟨t, S, r, S', rfl, hI, hf, h⟩ := bt_spM_e h
  obtain ⟨w, im, u, z, q⟩ := S
  unfold f_lost at hf
  split at hf
  · next _ _ _ _ _ e =>
    cases e
    obtain ⟨rfl, rfl⟩ := bt_some hf
    obtain ⟨a1, a2, a3, a4, a5, a6, a7, a8, a9, a10, a11, a12, a13, a14, a15⟩ := id hI
    obtain ⟨b0, b1, b2, b3, b4, b5, b6, b7, b8, b9, b10⟩ := id a2
    obtain ⟨hw, g1, g2, g3, g4, g5, g6, r0, r1, r2, r3, r4, r5, r6, c7, c8, c9, c10, c11⟩ := id a1
    obtain ⟨f1, f2, f3, f4, f5, f6, f7, f8, f9, f10, f11, f12, f13, f14, f15, f16, f17, f18⟩ := id hw
    simp only [Nat.zero_add] at g3 g4 g5 g6 r0 r1 r2 r3 r4 r5 r6 c7 c8 c9 c10
    rw [bt_st_all] at h
    refine bt_go rfl hP 60 [21] P (fun _ _ _ _ _ h => h) ?_
    refine ⟨0, w, rfl, rfl, by omega, a1, fun M1 d2 d1 => ?_⟩
    have t1 : bt_tm M M1 := bt_tm_fr bt_tm_rf (by omega) d2
    have l1 := bt_tm_live t1 a1
    refine ⟨360, _, rfl, rfl, by omega, d1, ?_⟩
    refine ⟨0, w, rfl, rfl, by omega, l1, ?_⟩
    have key := h M1 (bt_tm_fx t1) (bt_tm_I hI t1)
    have loop : ∀ v pc L st M' N', (pc = 21 ∧ st = [] ∧ N' = N ∧ ∃ k, k ≤ w 12 1 ∧ v = w 12 1 - k ∧ L = [some (.ref 67), some (.int (nI (bt_st (bt_de w)) - nI (bt_st w + bt_ml w (w 12 4) (w 12 0 - w 12 4) * bt_s9 w k))), some (.int (nI k))] ∧ M' = M1) → P pc L st M' N' := by
      refine bt_loop rfl hP 60 [21] (fun v pc L st M' N' => (pc = 21 ∧ st = [] ∧ N' = N ∧ ∃ k, k ≤ w 12 1 ∧ v = w 12 1 - k ∧ L = [some (.ref 67), some (.int (nI (bt_st (bt_de w)) - nI (bt_st w + bt_ml w (w 12 4) (w 12 0 - w 12 4) * bt_s9 w k))), some (.int (nI k))] ∧ M' = M1)) ?_
      rintro v pc L st M' N' ⟨rfl, rfl, hN, k, hk, rfl, rfl, hM⟩
      subst hM
      refine ⟨fun z1 => ?_, fun z1 => ?_⟩
      · rw [l1.2.2.1, nI_leI (by omega) (by omega)] at z1
        have e : k = w 12 1 := by omega
        rw [e, hN]
        exact key
      · rw [l1.2.2.1, nI_leI (by omega) (by omega)] at z1
        refine ⟨w, rfl, l1, ?_⟩
        have e9 := bt_mW_pace l1 (k := k) (by omega)
        refine ⟨_, rfl, 0 + 58 + 5 * k + 2, by rw [Nat.zero_add]; simp only [bt_lit, pk_mul, nI_add], by omega, ?_⟩
        refine ⟨w 12 1 - (k + 1), by omega, rfl, rfl, hN, k + 1, by omega, rfl, ?_, rfl⟩
        rw [e9, pk_mul, bt_subsub, nI_add, nI_1 k, bt_s9, Nat.mul_add, ← Nat.add_assoc]
    exact loop _ _ _ _ _ _ ⟨rfl, rfl, rfl, 0, by omega, rfl, by rw [bt_s9, Nat.mul_zero, Nat.add_zero]; rfl, rfl⟩
  · cases hf
end
section
/-! CALLS, BOTH SIDES: the best place of a third lane, of a lay by -/
def bt_w3 (w : bt_W) (t i : Nat) : bt_W := if t = 6 then bt_w1 w 6 i 1 else bt_w1 (bt_w1 w 5 i 1) 12 3 1
def bt_sv (w : bt_W) (t i : Nat) : Int32 := nI (bt_st (bt_de w)) - nI (bt_st (bt_de (bt_w3 w t i)))
def bt_bp (w : bt_W) (t : Nat) : Nat → Int32 × Int32
  | 0 => (-4, 0)
  | j + 1 => if w t (w 12 4 + j) = 1 then bt_bp w t j else if bt_sv w t (w 12 4 + j) ≤ (bt_bp w t j).2 then bt_bp w t j else (nI (w 12 4 + j), bt_sv w t (w 12 4 + j))
def bt_br (w : bt_W) (t : Nat) (x : Int32) : Int32 := if x = 0 ∨ (bt_bp w t (w 12 0 - w 12 4)).1 = -4 then (bt_bp w t (w 12 0 - w 12 4)).1 else (bt_bp w t (w 12 0 - w 12 4)).2
theorem bt_w1_id (w : bt_W) (f k : Nat) : bt_w1 w f k (w f k) = w := by
  funext f' k'
  unfold bt_w1
  by_cases h : f' = f ∧ k' = k
  · rw [if_pos h, h.1, h.2]
  · rw [if_neg h]
theorem bt_br_p {w : bt_W} {t j : Nat} {x : Int32} (e : j = w 12 0 - w 12 4) (h : x = 0 ∨ (bt_bp w t j).1 = -4) : bt_br w t x = (bt_bp w t j).1 := by
  unfold bt_br
  rw [← e, if_pos h]
theorem bt_br_s {w : bt_W} {t j : Nat} {x : Int32} (e : j = w 12 0 - w 12 4) (h1 : ¬ x = 0) (h2 : ¬ (bt_bp w t j).1 = -4) : bt_br w t x = (bt_bp w t j).2 := by
  unfold bt_br
  rw [← e, if_neg (fun c => c.elim h1 h2)]
theorem bt_bp_k {w : bt_W} {t j : Nat} (h1 : ¬ w t (w 12 4 + j) = 1) (h2 : bt_sv w t (w 12 4 + j) ≤ (bt_bp w t j).2) : bt_bp w t (j + 1) = bt_bp w t j := by
  rw [bt_bp, if_neg h1, if_pos h2]
theorem bt_bp_n {w : bt_W} {t j : Nat} (h1 : ¬ w t (w 12 4 + j) = 1) (h2 : ¬ bt_sv w t (w 12 4 + j) ≤ (bt_bp w t j).2) : bt_bp w t (j + 1) = (nI (w 12 4 + j), bt_sv w t (w 12 4 + j)) := by
  rw [bt_bp, if_neg h1, if_neg h2]
def bt_CX5_bestPlace : bt_C := [(78, 1, 2, sX4_takeFrom), (175, 1, 1, sX4_driveToEnd), (129, 0, 2, sX5_bit), (164, 0, 3, sX5_withBit)]
def sX5_bestPlace : bt_Sp := fun as M N K => match as with
  | [.ref c, .int b, .int x] => ∃ w, c = 0 ∧ bt_cW M 2 w ∧ ∀ M', bt_tq M M' → K (some (.int (bt_br w (if b = 0 then 5 else 6) x))) M' N
  | _ => False

set_option maxRecDepth 100000 in
theorem mX5_bestPlace : bt_MT bt_TX5_bestPlace bt_FX5 bt_CX5_bestPlace 1 8 sX5_bestPlace := by
  intro as M N Rt h P hP
  unfold sX5_bestPlace at h
  split at h
  · next c0 b x =>
    obtain ⟨w, rfl, a1, h⟩ := h
    obtain ⟨hw, h8, h9, h10, h11, h12, h13, h14, h15, h16, h17, r1, r2, r3, r4, r5, r6, r7, r8⟩ := id a1
    obtain ⟨f1, f2, f3, f4, f5, f6, f7, f8, f9, f10, f11, f12, f13, f14, f15, f16, f17, f18⟩ := id hw
    obtain ⟨t, ht⟩ : ∃ t, t = if b = 0 then 5 else 6 := ⟨_, rfl⟩
    rw [← ht] at h
    have hh := h
    have loop : ∀ v pc L st M' N', (pc = 35 ∧ st = [] ∧ N' = N ∧ ∃ j y, j ≤ w 12 0 - w 12 4 ∧ v = w 12 0 - w 12 4 - j ∧ L = [some (.ref 0), some (.int b), some (.int x), some (.int (nI (bt_st (bt_de w)))), some (.int (bt_bp w t j).1), some (.int (bt_bp w t j).2), some (.int (nI (w 12 4 + j))), y] ∧ bt_tq M M') → P pc L st M' N' := by
      refine bt_loop rfl hP 90 [35] (fun v pc L st M' N' => (pc = 35 ∧ st = [] ∧ N' = N ∧ ∃ j y, j ≤ w 12 0 - w 12 4 ∧ v = w 12 0 - w 12 4 - j ∧ L = [some (.ref 0), some (.int b), some (.int x), some (.int (nI (bt_st (bt_de w)))), some (.int (bt_bp w t j).1), some (.int (bt_bp w t j).2), some (.int (nI (w 12 4 + j))), y] ∧ bt_tq M M')) ?_
      rintro v pc L st M' N' ⟨rfl, rfl, hN, j, yy, hj, rfl, rfl, t1⟩
      have e8 : M' 2 8 = nI (w 12 0) := by rw [t1 2 (by omega)]; exact h8
      have e10 : M' 2 10 = nI (bt_mk (w 5) (w 12 0)) := by rw [t1 2 (by omega)]; exact h10
      have e11 : M' 2 11 = nI (bt_mk (w 6) (w 12 0)) := by rw [t1 2 (by omega)]; exact h11
      refine ⟨fun z1 => ?_, fun z1 => ?_⟩
      · rw [e8, nI_leI (by omega) (by omega)] at z1
        have e : j = w 12 0 - w 12 4 := by omega
        have key := hh M' t1
        rw [← hN] at key
        refine ⟨fun z2 => ?_, fun z2 => ⟨fun z3 => ?_, fun z3 => ?_⟩⟩
        · rw [bt_br_p e (Or.inl z2)] at key
          exact key
        · rw [bt_br_s e z2 z3] at key
          exact key
        · rw [bt_br_p e (Or.inr z3)] at key
          exact key
      · rw [e8, nI_leI (by omega) (by omega)] at z1
        have skip : w t (w 12 4 + j) = 1 → bt_bp w t (j + 1) = bt_bp w t j := fun c => by rw [bt_bp, if_pos c]
        have nI1 : ∀ a : Nat, a ≤ 1 → (nI a = 1 ↔ a = 1) := by
          intro a ha
          exact ⟨fun c => (nI_eq (b := 1) (by omega) (by omega)).mp c, fun c => by rw [c]; rfl⟩
        refine ⟨fun z2 => ?_, fun z2 => ?_⟩
        · rw [if_pos z2] at ht
          subst ht
          have eb := bt_bitN f12 (n := w 12 0) (k := w 12 4 + j) (by omega) (by omega)
          rw [if_pos (by omega), ← e10] at eb
          refine ⟨fun z3 => ?_, fun z3 => ?_⟩
          · have z4 : ¬ w 5 (w 12 4 + j) = 1 := fun c => z3 (by rw [eb, c]; rfl)
            refine ⟨w, by unfold bt_tf; decide, bt_tq_live t1 a1, fun M1 c1 c2 => ?_⟩
            have t2 := bt_tq_out t1 c2
            refine ⟨fun _ => ?_, fun c => absurd z2 c⟩
            intro M2 e2
            have t3 : bt_tq M M2 := by rw [e2]; exact bt_tq_up t2 (by omega) (by omega)
            have sb := bt_setb f12 (n := w 12 0) (i := w 12 4 + j) (by omega) (by omega) 1
            have p2 : bt_cW M2 11 (bt_w1 w 5 (w 12 4 + j) 1) := bt_cW_mask (f := 5) (s := 10) c1 (by omega) (by omega) (fun x hx => by rw [e2, bt_up_n hx]) (fun i hi => by rw [e2, bt_up_s, pk_un hi]) (by rw [e2, bt_up_s, pk_us, c1.2.2.2.1]; exact sb)
            intro M3 e3
            have t4 : bt_tq M M3 := by rw [e3]; exact bt_tq_up t3 (by omega) (by omega)
            have p3 : bt_cW M3 11 (bt_w3 w 5 (w 12 4 + j)) := bt_cW_le p2 (by omega) (fun x hx => by rw [e3, bt_up_n hx]) (fun i hi => by rw [e3, bt_up_s, pk_un hi]) (by rw [e3, bt_up_s]; exact pk_us)
            refine ⟨_, Or.inr rfl, p3, fun M4 q1 q2 => ?_⟩
            have t5 := bt_tq_frm t4 q2
            refine ⟨fun z5 => ?_, fun z5 => ?_⟩
            · have e : bt_bp w 5 (j + 1) = bt_bp w 5 j := bt_bp_k z4 z5
              exact ⟨w 12 0 - w 12 4 - (j + 1), by omega, rfl, rfl, hN, j + 1, _, by omega, rfl, by rw [e, bt_nI_add3], t5⟩
            · have e : bt_bp w 5 (j + 1) = (nI (w 12 4 + j), bt_sv w 5 (w 12 4 + j)) := bt_bp_n z4 z5
              exact ⟨w 12 0 - w 12 4 - (j + 1), by omega, rfl, rfl, hN, j + 1, _, by omega, rfl, by rw [e, bt_nI_add3]; rfl, t5⟩
          · have z4 : w 5 (w 12 4 + j) = 1 := by
              rw [eb, nI1 _ (f12 _)] at z3
              exact z3
            exact ⟨w 12 0 - w 12 4 - (j + 1), by omega, rfl, rfl, hN, j + 1, _, by omega, rfl, by rw [skip z4, bt_nI_add3], t1⟩
        · rw [if_neg z2] at ht
          subst ht
          have eb := bt_bitN f13 (n := w 12 0) (k := w 12 4 + j) (by omega) (by omega)
          rw [if_pos (by omega), ← e11] at eb
          refine ⟨fun z3 => ?_, fun z3 => ?_⟩
          · have z4 : ¬ w 6 (w 12 4 + j) = 1 := fun c => z3 (by rw [eb, c]; rfl)
            refine ⟨w, by unfold bt_tf; decide, bt_tq_live t1 a1, fun M1 c1 c2 => ?_⟩
            have t2 := bt_tq_out t1 c2
            refine ⟨fun c => absurd c z2, fun _ => ?_⟩
            intro M2 e2
            have t3 : bt_tq M M2 := by rw [e2]; exact bt_tq_up t2 (by omega) (by omega)
            have sb := bt_setb f13 (n := w 12 0) (i := w 12 4 + j) (by omega) (by omega) 1
            have p2 : bt_cW M2 11 (bt_w3 w 6 (w 12 4 + j)) := bt_cW_mask (f := 6) (s := 11) c1 (by omega) (by omega) (fun x hx => by rw [e2, bt_up_n hx]) (fun i hi => by rw [e2, bt_up_s, pk_un hi]) (by rw [e2, bt_up_s, pk_us, c1.2.2.2.2.1]; exact sb)
            refine ⟨_, Or.inr rfl, p2, fun M4 q1 q2 => ?_⟩
            have t5 := bt_tq_frm t3 q2
            refine ⟨fun z5 => ?_, fun z5 => ?_⟩
            · have e : bt_bp w 6 (j + 1) = bt_bp w 6 j := bt_bp_k z4 z5
              exact ⟨w 12 0 - w 12 4 - (j + 1), by omega, rfl, rfl, hN, j + 1, _, by omega, rfl, by rw [e, bt_nI_add3], t5⟩
            · have e : bt_bp w 6 (j + 1) = (nI (w 12 4 + j), bt_sv w 6 (w 12 4 + j)) := bt_bp_n z4 z5
              exact ⟨w 12 0 - w 12 4 - (j + 1), by omega, rfl, rfl, hN, j + 1, _, by omega, rfl, by rw [e, bt_nI_add3]; rfl, t5⟩
          · have z4 : w 6 (w 12 4 + j) = 1 := by
              rw [eb, nI1 _ (f13 _)] at z3
              exact z3
            exact ⟨w 12 0 - w 12 4 - (j + 1), by omega, rfl, rfl, hN, j + 1, _, by omega, rfl, by rw [skip z4, bt_nI_add3], t1⟩
    refine bt_go rfl hP 60 [35] P (fun _ _ _ _ _ h => h) ?_
    refine ⟨w, by unfold bt_tf; decide, a1, fun M1 c1 c2 => ?_⟩
    have t1 : bt_tq M M1 := bt_tq_out bt_tq_rf c2
    refine ⟨_, Or.inr rfl, c1, fun M4 q1 q2 => ?_⟩
    have t5 := bt_tq_frm t1 q2
    have e16 : M4 2 16 = nI (w 12 4) := by rw [t5 2 (by omega)]; exact h16
    exact loop _ _ _ _ _ _ ⟨rfl, rfl, rfl, 0, none, by omega, rfl, by rw [e16]; rfl, t5⟩
  · exact False.elim h

def f_third : bt_fn := fun t S => match t, S with
  | [.int x], (w, im, u, z, q) => some (.int (if bt_in x 2 then bt_br w 6 x else -1), (w, im, u, z, q))
  | _, _ => none

def bt_CX5_third : bt_C := [(57, 0, 3, sX5_within), (217, 1, 3, sX5_bestPlace)]
def sX5_third : bt_Sp := bt_spC f_third
set_option maxRecDepth 100000 in
theorem mX5_third : bt_MT bt_TX5_third bt_FX5 bt_CX5_third 1 2 sX5_third := by
  intro as M N Rt h P hP
  obtain ⟨t, S, r, S', rfl, hI, hf, h⟩ := bt_spC_e h
  obtain ⟨w, im, u, z, q⟩ := S
  unfold f_third at hf
  split at hf
  · next x _ _ _ _ _ e =>
    cases e
    obtain ⟨rfl, rfl⟩ := bt_some hf
    obtain ⟨a1, a2, a3, a4, a5, a6, a7, a8, a9, a10, a11, a12⟩ := id hI
    obtain ⟨b0, b1, b2, b3, b4, b5, b6, b7, b8, b9, b10⟩ := id a2
    obtain ⟨hw, h8, h9, h10, h11, h12, h13, h14, h15, h16, h17, r1, r2, r3, r4, r5, r6, r7, r8⟩ := id a1
    obtain ⟨f1, f2, f3, f4, f5, f6, f7, f8, f9, f10, f11, f12, f13, f14, f15, f16, f17, f18⟩ := id hw
    refine bt_go0 rfl hP 60 ?_
    refine ⟨fun y => ?_, fun y => ?_⟩
    · rw [bt_bi_0, bt_in_c (k := 1) (show (1 : Int32) = nI 1 from rfl) (by omega)] at y
      rw [if_neg y] at h
      exact h M N (fun _ _ => rfl) hI
    · rw [bt_bi_n0, bt_in_c (k := 1) (show (1 : Int32) = nI 1 from rfl) (by omega)] at y
      rw [if_pos y] at h
      exact ⟨w, rfl, a1, fun M' t => h M' N (bt_tq_fr t) (bt_tq_I hI t)⟩
  · cases hf

def f_layby : bt_fn := fun t S => match t, S with
  | [.int x], (w, im, u, z, q) => some (.int (if bt_in x 2 then bt_br w 5 x else -1), (w, im, u, z, q))
  | _, _ => none

def bt_CX5_layby : bt_C := [(57, 0, 3, sX5_within), (217, 1, 3, sX5_bestPlace)]
def sX5_layby : bt_Sp := bt_spC f_layby
set_option maxRecDepth 100000 in
theorem mX5_layby : bt_MT bt_TX5_layby bt_FX5 bt_CX5_layby 1 2 sX5_layby := by
  intro as M N Rt h P hP
  obtain ⟨t, S, r, S', rfl, hI, hf, h⟩ := bt_spC_e h
  obtain ⟨w, im, u, z, q⟩ := S
  unfold f_layby at hf
  split at hf
  · next x _ _ _ _ _ e =>
    cases e
    obtain ⟨rfl, rfl⟩ := bt_some hf
    obtain ⟨a1, a2, a3, a4, a5, a6, a7, a8, a9, a10, a11, a12⟩ := id hI
    obtain ⟨b0, b1, b2, b3, b4, b5, b6, b7, b8, b9, b10⟩ := id a2
    obtain ⟨hw, h8, h9, h10, h11, h12, h13, h14, h15, h16, h17, r1, r2, r3, r4, r5, r6, r7, r8⟩ := id a1
    obtain ⟨f1, f2, f3, f4, f5, f6, f7, f8, f9, f10, f11, f12, f13, f14, f15, f16, f17, f18⟩ := id hw
    refine bt_go0 rfl hP 60 ?_
    refine ⟨fun y => ?_, fun y => ?_⟩
    · rw [bt_bi_0, bt_in_c (k := 1) (show (1 : Int32) = nI 1 from rfl) (by omega)] at y
      rw [if_neg y] at h
      exact h M N (fun _ _ => rfl) hI
    · rw [bt_bi_n0, bt_in_c (k := 1) (show (1 : Int32) = nI 1 from rfl) (by omega)] at y
      rw [if_pos y] at h
      exact ⟨w, rfl, a1, fun M' t => h M' N (bt_tq_fr t) (bt_tq_I hI t)⟩
  · cases hf

theorem bt_mW_st5 {M : bt_M} {i : Nat} {w : bt_W} (h : bt_mW M 0 w) (hi : i < w 12 0) : M 68 (7 * i + 5) = nI (w 5 i) := by
  obtain ⟨hf, g1, g2, g3, g4, g5, g6, r0, r1, r2, r3, r4, r5, r6, c7, c8, c9, c10, c11⟩ := h
  have := r5 i hi
  rw [Nat.zero_add] at this
  exact this
theorem bt_mW_st6 {M : bt_M} {i : Nat} {w : bt_W} (h : bt_mW M 0 w) (hi : i < w 12 0) : M 68 (7 * i + 6) = nI (w 6 i) := by
  obtain ⟨hf, g1, g2, g3, g4, g5, g6, r0, r1, r2, r3, r4, r5, r6, c7, c8, c9, c10, c11⟩ := h
  have := r6 i hi
  rw [Nat.zero_add] at this
  exact this
def bt_CX6_mostSaved : bt_C := [(205, 1, 2, sX6_triesFrom), (208, 1, 2, sX6_timesOn), (199, 1, 3, sX6_copies)]
def sX6_mostSaved : bt_Sp := fun as M N K => match as with
  | [.ref c, .int t, .int x] => ∃ w t', c = 67 ∧ t = nI t' ∧ (t' = 5 ∨ t' = 6) ∧ bt_mW M 0 w ∧ ∀ M', bt_tm M M' → K (some (.int (bt_br w t' x))) M' N
  | _ => False
set_option maxRecDepth 100000 in
theorem mX6_mostSaved : bt_MT bt_TX6_mostSaved bt_FX6 bt_CX6_mostSaved 1 8 sX6_mostSaved := by
  intro as M N Rt h P hP
  unfold sX6_mostSaved at h
  split at h
  · next c0 t0 x =>
    obtain ⟨w, t, rfl, rfl, ht, a1, h⟩ := h
    obtain ⟨hw, g1, g2, g3, g4, g5, g6, r0, r1, r2, r3, r4, r5, r6, c7, c8, c9, c10, c11⟩ := id a1
    obtain ⟨f1, f2, f3, f4, f5, f6, f7, f8, f9, f10, f11, f12, f13, f14, f15, f16, f17, f18⟩ := id hw
    have hh := h
    have loop : ∀ v pc L st M' N', (pc = 29 ∧ st = [] ∧ N' = N ∧ ∃ j y, j ≤ w 12 0 - w 12 4 ∧ v = w 12 0 - w 12 4 - j ∧ L = [some (.ref 67), some (.int (nI t)), some (.int x), some (.int (nI (bt_st (bt_de w)))), some (.int (bt_bp w t j).2), some (.int (bt_bp w t j).1), some (.int (nI (w 12 4 + j))), y] ∧ bt_tm M M') → P pc L st M' N' := by
      refine bt_loop rfl hP 90 [29] (fun v pc L st M' N' => (pc = 29 ∧ st = [] ∧ N' = N ∧ ∃ j y, j ≤ w 12 0 - w 12 4 ∧ v = w 12 0 - w 12 4 - j ∧ L = [some (.ref 67), some (.int (nI t)), some (.int x), some (.int (nI (bt_st (bt_de w)))), some (.int (bt_bp w t j).2), some (.int (bt_bp w t j).1), some (.int (nI (w 12 4 + j))), y] ∧ bt_tm M M')) ?_
      rintro v pc L st M' N' ⟨rfl, rfl, hN, j, yy, hj, rfl, rfl, t1⟩
      have l1 := bt_tm_live t1 a1
      have e1 : M' 67 1 = nI (w 12 0) := l1.2.1
      refine ⟨fun z1 => ?_, fun z1 => ?_⟩
      · rw [e1, nI_leI (by omega) (by omega)] at z1
        have e : j = w 12 0 - w 12 4 := by omega
        have key := hh M' t1
        rw [← hN] at key
        refine ⟨fun z2 => ?_, fun z2 => ⟨fun z3 => ?_, fun z3 => ?_⟩⟩
        · rw [bt_br_p e (Or.inr z2)] at key
          exact key
        · rw [bt_br_s e z3 z2] at key
          exact key
        · rw [bt_br_p e (Or.inl z3)] at key
          exact key
      · rw [e1, nI_leI (by omega) (by omega)] at z1
        have skip : w t (w 12 4 + j) = 1 → bt_bp w t (j + 1) = bt_bp w t j := fun c => by rw [bt_bp, if_pos c]
        rcases ht with rfl | rfl
        · have ec := bt_mW_st5 l1 (i := w 12 4 + j) (by omega)
          have eb := f12 (w 12 4 + j)
          refine ⟨_, rfl, 7 * (w 12 4 + j) + 5, by simp only [bt_lit, pk_mul, nI_add], by omega, ⟨fun z2 => ?_, fun z2 => ?_⟩⟩
          · have z4 : w 5 (w 12 4 + j) = 1 := by
              have : ¬ w 5 (w 12 4 + j) = 0 := fun c => z2 (by rw [ec, c]; rfl)
              omega
            exact ⟨w 12 0 - w 12 4 - (j + 1), by omega, rfl, rfl, hN, j + 1, _, by omega, rfl, by rw [skip z4, bt_nI_add3], t1⟩
          · have z4 : ¬ w 5 (w 12 4 + j) = 1 := fun c => by
              rw [ec, c] at z2
              exact absurd z2 (by decide)
            refine ⟨0, 450, rfl, rfl, by omega, rfl, by omega, by omega, fun M1 c1 c2 => ?_⟩
            have t2 := bt_tm_fr t1 (by omega) c1
            have p1 : bt_mW M1 450 w := bt_mW_copy l1 c1.1 c2
            refine ⟨_, rfl, 450 + 7 * (w 12 4 + j) + 5, by simp only [bt_lit, pk_mul, nI_add], by omega, fun M2 e2 => ?_⟩
            have t3 : bt_tm M M2 := by rw [e2]; exact bt_tm_up t2 (by omega)
            have p2 : bt_mW M2 450 (bt_w1 w 5 (w 12 4 + j) 1) := bt_mW_st (f := 5) p1 (by omega) (by omega) (by decide) (fun x hx => by rw [e2, bt_up_n hx]) (fun i hi => by rw [e2, bt_up_s, pk_un hi]) (by rw [e2, bt_up_s, pk_us]; rfl)
            refine ⟨fun c => absurd rfl c, fun _ => ?_⟩
            refine ⟨_, rfl, 507, rfl, by omega, fun M3 e3 => ?_⟩
            have t4 : bt_tm M M3 := by rw [e3]; exact bt_tm_up t3 (by omega)
            have p3 : bt_mW M3 450 (bt_w3 w 5 (w 12 4 + j)) := bt_mW_le p2 (by omega) (fun x hx => by rw [e3, bt_up_n hx]) (fun i hi => by rw [e3, bt_up_s, pk_un hi]) (by rw [e3, bt_up_s]; exact pk_us)
            refine ⟨450, _, rfl, rfl, by omega, p3, fun M4 q2 q1 => ?_⟩
            have t5 := bt_tm_fr t4 (by omega) q2
            refine ⟨360, _, rfl, rfl, by omega, q1, ?_⟩
            refine ⟨fun z5 => ⟨fun _ => ?_, fun c => absurd z5 c⟩, fun z5 => ⟨fun c => absurd c z5, fun _ => ?_⟩⟩
            · have e : bt_bp w 5 (j + 1) = bt_bp w 5 j := bt_bp_k z4 z5
              exact ⟨w 12 0 - w 12 4 - (j + 1), by omega, rfl, rfl, hN, j + 1, _, by omega, rfl, by rw [e, bt_nI_add3], t5⟩
            · have e : bt_bp w 5 (j + 1) = (nI (w 12 4 + j), bt_sv w 5 (w 12 4 + j)) := bt_bp_n z4 z5
              exact ⟨w 12 0 - w 12 4 - (j + 1), by omega, rfl, rfl, hN, j + 1, _, by omega, rfl, by rw [e, bt_nI_add3]; rfl, t5⟩
        · have ec := bt_mW_st6 l1 (i := w 12 4 + j) (by omega)
          have eb := f13 (w 12 4 + j)
          refine ⟨_, rfl, 7 * (w 12 4 + j) + 6, by simp only [bt_lit, pk_mul, nI_add], by omega, ⟨fun z2 => ?_, fun z2 => ?_⟩⟩
          · have z4 : w 6 (w 12 4 + j) = 1 := by
              have : ¬ w 6 (w 12 4 + j) = 0 := fun c => z2 (by rw [ec, c]; rfl)
              omega
            exact ⟨w 12 0 - w 12 4 - (j + 1), by omega, rfl, rfl, hN, j + 1, _, by omega, rfl, by rw [skip z4, bt_nI_add3], t1⟩
          · have z4 : ¬ w 6 (w 12 4 + j) = 1 := fun c => by
              rw [ec, c] at z2
              exact absurd z2 (by decide)
            refine ⟨0, 450, rfl, rfl, by omega, rfl, by omega, by omega, fun M1 c1 c2 => ?_⟩
            have t2 := bt_tm_fr t1 (by omega) c1
            have p1 : bt_mW M1 450 w := bt_mW_copy l1 c1.1 c2
            refine ⟨_, rfl, 450 + 7 * (w 12 4 + j) + 6, by simp only [bt_lit, pk_mul, nI_add], by omega, fun M2 e2 => ?_⟩
            have t3 : bt_tm M M2 := by rw [e2]; exact bt_tm_up t2 (by omega)
            have p2 : bt_mW M2 450 (bt_w1 w 6 (w 12 4 + j) 1) := bt_mW_st (f := 6) p1 (by omega) (by omega) (by decide) (fun x hx => by rw [e2, bt_up_n hx]) (fun i hi => by rw [e2, bt_up_s, pk_un hi]) (by rw [e2, bt_up_s, pk_us]; rfl)
            refine ⟨fun _ => ?_, fun c => absurd c (by decide)⟩
            refine ⟨_, rfl, 57, rfl, by omega, ?_⟩
            refine ⟨_, rfl, 507, rfl, by omega, fun M3 e3 => ?_⟩
            have t4 : bt_tm M M3 := by rw [e3]; exact bt_tm_up t3 (by omega)
            have e57 : M2 68 57 = nI (w 12 3) := by rw [t3.2 57 (by omega)]; simpa using g4
            have p3 : bt_mW M3 450 (bt_w3 w 6 (w 12 4 + j)) := by
              have := bt_mW_le (v := w 12 3) p2 f5 (M' := M3) (fun x hx => by rw [e3, bt_up_n hx]) (fun i hi => by rw [e3, bt_up_s, pk_un hi]) (by rw [e3, bt_up_s, e57]; exact pk_us)
              rw [show bt_w1 (bt_w1 w 6 (w 12 4 + j) 1) 12 3 (w 12 3) = bt_w1 w 6 (w 12 4 + j) 1 from by
                have e := bt_w1_id (bt_w1 w 6 (w 12 4 + j) 1) 12 3
                rw [bt_w1_n (f' := 12) (by omega)] at e
                exact e] at this
              exact this
            refine ⟨450, _, rfl, rfl, by omega, p3, fun M4 q2 q1 => ?_⟩
            have t5 := bt_tm_fr t4 (by omega) q2
            refine ⟨360, _, rfl, rfl, by omega, q1, ?_⟩
            refine ⟨fun z5 => ⟨fun _ => ?_, fun c => absurd z5 c⟩, fun z5 => ⟨fun c => absurd c z5, fun _ => ?_⟩⟩
            · have e : bt_bp w 6 (j + 1) = bt_bp w 6 j := bt_bp_k z4 z5
              exact ⟨w 12 0 - w 12 4 - (j + 1), by omega, rfl, rfl, hN, j + 1, _, by omega, rfl, by rw [e, bt_nI_add3], t5⟩
            · have e : bt_bp w 6 (j + 1) = (nI (w 12 4 + j), bt_sv w 6 (w 12 4 + j)) := bt_bp_n z4 z5
              exact ⟨w 12 0 - w 12 4 - (j + 1), by omega, rfl, rfl, hN, j + 1, _, by omega, rfl, by rw [e, bt_nI_add3]; rfl, t5⟩
    refine bt_go rfl hP 60 [29] P (fun _ _ _ _ _ h => h) ?_
    refine ⟨0, w, rfl, rfl, by omega, a1, fun M1 d2 d1 => ?_⟩
    have t1 : bt_tm M M1 := bt_tm_fr bt_tm_rf (by omega) d2
    have l1 := bt_tm_live t1 a1
    refine ⟨360, _, rfl, rfl, by omega, d1, ?_⟩
    have e88 : M1 68 88 = nI (w 12 4) := by simpa using l1.2.2.2.2.2.1
    refine ⟨_, rfl, 88, rfl, by omega, ?_⟩
    exact loop _ _ _ _ _ _ ⟨rfl, rfl, rfl, 0, none, by omega, rfl, by rw [e88]; rfl, t1⟩
  · exact False.elim h

def bt_CX6_third : bt_C := [(46, 0, 3, sX6_in), (241, 1, 3, sX6_mostSaved)]
def sX6_third : bt_Sp := bt_spM f_third
set_option maxRecDepth 100000 in
theorem mX6_third : bt_MT bt_TX6_third bt_FX6 bt_CX6_third 1 2 sX6_third := by
  intro as M N Rt h P hP
  obtain ⟨t, S, r, S', rfl, hI, hf, h⟩ := bt_spM_e h
  obtain ⟨w, im, u, z, q⟩ := S
  unfold f_third at hf
  split at hf
  · next x _ _ _ _ _ e =>
    cases e
    obtain ⟨rfl, rfl⟩ := bt_some hf
    obtain ⟨a1, a2, a3, a4, a5, a6, a7, a8, a9, a10, a11, a12, a13, a14, a15⟩ := id hI
    obtain ⟨b0, b1, b2, b3, b4, b5, b6, b7, b8, b9, b10⟩ := id a2
    obtain ⟨hw, g1, g2, g3, g4, g5, g6, r0, r1, r2, r3, r4, r5, r6, c7, c8, c9, c10, c11⟩ := id a1
    obtain ⟨f1, f2, f3, f4, f5, f6, f7, f8, f9, f10, f11, f12, f13, f14, f15, f16, f17, f18⟩ := id hw
    simp only [Nat.zero_add] at g3 g4 g5 g6 r0 r1 r2 r3 r4 r5 r6 c7 c8 c9 c10
    refine bt_go0 rfl hP 60 ?_
    refine ⟨fun y => ?_, fun y => ?_⟩
    · rw [bt_bi_0, bt_inl_c (k := 1) (show (1 : Int64) = lN 1 from rfl) (by omega)] at y
      rw [if_neg y] at h
      exact h M (fun _ _ => rfl) hI
    · rw [bt_bi_n0, bt_inl_c (k := 1) (show (1 : Int64) = lN 1 from rfl) (by omega)] at y
      rw [if_pos y] at h
      exact ⟨w, 6, rfl, rfl, by omega, a1, fun M' t => h M' (bt_tm_fx t) (bt_tm_I hI t)⟩
  · cases hf

def bt_CX6_layby : bt_C := [(46, 0, 3, sX6_in), (241, 1, 3, sX6_mostSaved)]
def sX6_layby : bt_Sp := bt_spM f_layby
set_option maxRecDepth 100000 in
theorem mX6_layby : bt_MT bt_TX6_layby bt_FX6 bt_CX6_layby 1 2 sX6_layby := by
  intro as M N Rt h P hP
  obtain ⟨t, S, r, S', rfl, hI, hf, h⟩ := bt_spM_e h
  obtain ⟨w, im, u, z, q⟩ := S
  unfold f_layby at hf
  split at hf
  · next x _ _ _ _ _ e =>
    cases e
    obtain ⟨rfl, rfl⟩ := bt_some hf
    obtain ⟨a1, a2, a3, a4, a5, a6, a7, a8, a9, a10, a11, a12, a13, a14, a15⟩ := id hI
    obtain ⟨b0, b1, b2, b3, b4, b5, b6, b7, b8, b9, b10⟩ := id a2
    obtain ⟨hw, g1, g2, g3, g4, g5, g6, r0, r1, r2, r3, r4, r5, r6, c7, c8, c9, c10, c11⟩ := id a1
    obtain ⟨f1, f2, f3, f4, f5, f6, f7, f8, f9, f10, f11, f12, f13, f14, f15, f16, f17, f18⟩ := id hw
    simp only [Nat.zero_add] at g3 g4 g5 g6 r0 r1 r2 r3 r4 r5 r6 c7 c8 c9 c10
    refine bt_go0 rfl hP 60 ?_
    refine ⟨fun y => ?_, fun y => ?_⟩
    · rw [bt_bi_0, bt_inl_c (k := 1) (show (1 : Int64) = lN 1 from rfl) (by omega)] at y
      rw [if_neg y] at h
      exact h M (fun _ _ => rfl) hI
    · rw [bt_bi_n0, bt_inl_c (k := 1) (show (1 : Int64) = lN 1 from rfl) (by omega)] at y
      rw [if_pos y] at h
      exact ⟨w, 5, rfl, rfl, by omega, a1, fun M' t => h M' (bt_tm_fx t) (bt_tm_I hI t)⟩
  · cases hf
end
section
/-! LOWEST TERMS -/
theorem bt_gcd_s (c d : Nat) : Nat.gcd d (c % d) = Nat.gcd c d := by
  rw [Nat.gcd_comm c d, Nat.gcd_rec d c, Nat.gcd_comm]
theorem bt_mod2 {c d : Nat} (h : d < c) (h0 : 0 < d) : 2 * (c % d) < c := by
  have h1 := Nat.mod_lt c h0
  have h2 := Nat.div_add_mod c d
  have h3 : 1 ≤ c / d := (Nat.one_le_div_iff h0).mpr (by omega)
  have h4 : d * 1 ≤ d * (c / d) := Nat.mul_le_mul_left d h3
  omega
def bt_lw (a b : Nat) (x : Int32) : Int64 := lN ((if x = 0 then a else b) / Nat.gcd a b)
def sX5_lowest : bt_Sp := fun as M N K => match as with
  | [.long p, .long q, .int x] => ∃ a b, p = lN a ∧ q = lN b ∧ 0 < b ∧ a < 2 ^ 62 ∧ b < 2 ^ 62 ∧ K (some (.long (bt_lw a b x))) M N
  | _ => False
set_option maxRecDepth 100000 in
theorem mX5_lowest : bt_MT bt_TX5_lowest bt_FX5 [] 3 12 sX5_lowest := by
  intro as M N Rt h P hP
  unfold sX5_lowest at h
  split at h
  · next p q x =>
    obtain ⟨a, b, rfl, rfl, hb0, ha, hb, h⟩ := h
    have hg : 0 < Nat.gcd a b := Nat.gcd_pos_of_pos_right a hb0
    have loop : ∀ v pc L st M' N', (pc = 9 ∧ st = [] ∧ M' = M ∧ N' = N ∧ ∃ c d i y z, v = 200 - i ∧ i ≤ 200 ∧ c < 2 ^ 62 ∧ d < 2 ^ 62 ∧ Nat.gcd c d = Nat.gcd a b ∧ ((i = 0 ∧ d = b) ∨ (1 ≤ i ∧ d < c ∧ c * d * 2 ^ i < 2 ^ 125)) ∧ L = [some (.long (lN a)), none, some (.long (lN b)), none, some (.int x), some (.long (lN c)), none, some (.long (lN d)), none, some (.int (nI i)), y, z]) → P pc L st M' N' := by
      refine bt_loop rfl hP 60 [9] (fun v pc L st M' N' => (pc = 9 ∧ st = [] ∧ M' = M ∧ N' = N ∧ ∃ c d i y z, v = 200 - i ∧ i ≤ 200 ∧ c < 2 ^ 62 ∧ d < 2 ^ 62 ∧ Nat.gcd c d = Nat.gcd a b ∧ ((i = 0 ∧ d = b) ∨ (1 ≤ i ∧ d < c ∧ c * d * 2 ^ i < 2 ^ 125)) ∧ L = [some (.long (lN a)), none, some (.long (lN b)), none, some (.int x), some (.long (lN c)), none, some (.long (lN d)), none, some (.int (nI i)), y, z])) ?_
      rintro v pc L st M' N' ⟨rfl, rfl, hM, hN, c, d, i, y, z, rfl, hi, hc, hd, hgcd, hcase, rfl⟩
      rw [← hM, ← hN] at h
      have l0 : (0 : Int64) = lN 0 := rfl
      have fin : c = Nat.gcd a b → (0 < lg_cmp (lN c) 0) ∧ ((¬ x = 0 → (¬ lN c = 0 ∧ Rt (some (.long (lN b / lN c))) M' N')) ∧ (x = 0 → (¬ lN c = 0 ∧ Rt (some (.long (lN a / lN c))) M' N'))) := fun e => by
        have c0 : ¬ lN c = 0 := fun z => by
          rw [l0, pk_lEQ (by omega) (by omega)] at z
          omega
        refine ⟨by rw [bt_cmp_gt, l0, pk_lLT (by omega) (by omega)]; omega, fun z => ⟨c0, ?_⟩, fun z => ⟨c0, ?_⟩⟩
        · unfold bt_lw at h
          rw [if_neg z] at h
          rw [pk_lDiv (by omega) (by omega) (by omega), e]
          exact h
        · unfold bt_lw at h
          rw [if_pos z] at h
          rw [pk_lDiv (by omega) (by omega) (by omega), e]
          exact h
      refine ⟨fun z1 => ?_, fun z1 => ?_⟩
      · rw [bt_lit, nI_leI (by omega) (by omega)] at z1
        have i200 : i = 200 := by omega
        have d0 : d = 0 := by
          rcases hcase with ⟨h0, _⟩ | ⟨_, h1, h2⟩
          · omega
          · by_cases c0 : d = 0
            · exact c0
            · have e1 : 1 ≤ c * d := Nat.mul_pos (by omega) (by omega)
              have e2 : 1 * 2 ^ i ≤ c * d * 2 ^ i := Nat.mul_le_mul_right _ e1
              rw [i200] at e2 h2
              omega
        have e : c = Nat.gcd a b := by rw [← hgcd, d0, Nat.gcd_zero_right]
        obtain ⟨g1, g2, g3⟩ := fin e
        exact ⟨fun _ => ⟨g2, g3⟩, fun z => absurd g1 z⟩
      · rw [bt_lit, nI_leI (by omega) (by omega)] at z1
        refine ⟨fun z2 => ?_, fun z2 => ?_⟩
        · rw [bt_cmp_eq, l0, pk_lEQ (by omega) (by omega)] at z2
          have e : c = Nat.gcd a b := by rw [← hgcd, z2, Nat.gcd_zero_right]
          obtain ⟨g1, g2, g3⟩ := fin e
          exact ⟨fun _ => ⟨g2, g3⟩, fun z => absurd g1 z⟩
        · rw [bt_cmp_eq, l0, pk_lEQ (by omega) (by omega)] at z2
          have hr := Nat.mod_lt c (show 0 < d by omega)
          refine ⟨fun z => z2 ((pk_lEQ (b := 0) (by omega) (by omega)).mp z), ?_⟩
          refine ⟨200 - (i + 1), by omega, rfl, rfl, hM, hN, d, c % d, i + 1, _, _, rfl, by omega, hd, by omega, by rw [bt_gcd_s]; exact hgcd, Or.inr ⟨by omega, hr, ?_⟩, by rw [pk_lRem (by omega) (by omega) (by omega), nI_1 i]⟩
          rcases hcase with ⟨h0, h1⟩ | ⟨_, h1, h2⟩
          · rw [h0, h1]
            have e1 : b * (c % b) ≤ b * b := Nat.mul_le_mul_left b (by rw [← h1]; omega)
            have e2 : b * b < 2 ^ 62 * 2 ^ 62 := Nat.mul_lt_mul_of_lt_of_le hb (by omega) (by omega)
            omega
          · have e1 := bt_mod2 h1 (show 0 < d by omega)
            have e2 : d * (c % d) * 2 ^ (i + 1) = d * (2 * (c % d)) * 2 ^ i := by
              rw [Nat.pow_succ]
              simp only [Nat.mul_assoc, Nat.mul_comm, Nat.mul_left_comm]
            have e3 : d * (2 * (c % d)) * 2 ^ i ≤ d * c * 2 ^ i := Nat.mul_le_mul_right _ (Nat.mul_le_mul_left _ (by omega))
            rw [Nat.mul_comm d c] at e3
            omega
    refine bt_go rfl hP 60 [9] P (fun _ _ _ _ _ h => h) ?_
    exact loop _ _ _ _ _ _ ⟨rfl, rfl, rfl, rfl, a, b, 0, none, none, rfl, by omega, ha, hb, rfl, Or.inl ⟨rfl, rfl⟩, rfl⟩
  · exact False.elim h
def sX6_lowest : bt_Sp := sX5_lowest
set_option maxRecDepth 100000 in
theorem mX6_lowest : bt_MT bt_TX6_lowest bt_FX6 [] 3 11 sX6_lowest := by
  intro as M N Rt h P hP
  unfold sX6_lowest sX5_lowest at h
  split at h
  · next p q x =>
    obtain ⟨a, b, rfl, rfl, hb0, ha, hb, h⟩ := h
    have hg : 0 < Nat.gcd a b := Nat.gcd_pos_of_pos_right a hb0
    have l0 : (0 : Int64) = lN 0 := rfl
    have loop : ∀ v pc L st M' N', (pc = 17 ∧ st = [] ∧ M' = M ∧ N' = N ∧ ∃ c d y z, d = v ∧ c < 2 ^ 62 ∧ d < 2 ^ 62 ∧ Nat.gcd c d = Nat.gcd a b ∧ L = [some (.long (lN a)), none, some (.long (lN b)), none, some (.int x), some (.long (lN c)), none, some (.long (lN d)), none, y, z]) → P pc L st M' N' := by
      refine bt_loop rfl hP 60 [17] (fun v pc L st M' N' => (pc = 17 ∧ st = [] ∧ M' = M ∧ N' = N ∧ ∃ c d y z, d = v ∧ c < 2 ^ 62 ∧ d < 2 ^ 62 ∧ Nat.gcd c d = Nat.gcd a b ∧ L = [some (.long (lN a)), none, some (.long (lN b)), none, some (.int x), some (.long (lN c)), none, some (.long (lN d)), none, y, z])) ?_
      rintro d0 pc L st M' N' ⟨rfl, rfl, hM, hN, c, d, y, z, hv, hc, hd, hgcd, rfl⟩
      rw [← hM, ← hN] at h
      refine ⟨fun z2 => ?_, fun z2 => ?_⟩
      · rw [bt_cmp_eq, l0, pk_lEQ (by omega) (by omega)] at z2
        have e : c = Nat.gcd a b := by rw [← hgcd, z2, Nat.gcd_zero_right]
        have c0 : ¬ lN c = 0 := fun z => by
          rw [l0, pk_lEQ (by omega) (by omega)] at z
          omega
        unfold bt_lw at h
        refine ⟨fun z => ⟨c0, ?_⟩, fun z => ⟨c0, ?_⟩⟩
        · rw [if_neg z] at h
          rw [pk_lDiv (by omega) (by omega) (by omega), e]
          exact h
        · rw [if_pos z] at h
          rw [pk_lDiv (by omega) (by omega) (by omega), e]
          exact h
      · rw [bt_cmp_eq, l0, pk_lEQ (by omega) (by omega)] at z2
        have hr := Nat.mod_lt c (show 0 < d by omega)
        refine ⟨fun z => z2 ((pk_lEQ (b := 0) (by omega) (by omega)).mp z), ?_⟩
        exact ⟨c % d, by omega, rfl, rfl, hM, hN, d, c % d, _, _, rfl, hd, by omega, by rw [bt_gcd_s]; exact hgcd, by rw [pk_lRem (by omega) (by omega) (by omega)]⟩
    refine bt_go rfl hP 60 [17] P (fun _ _ _ _ _ h => h) ?_
    refine ⟨fun _ => ?_, fun z => ?_⟩
    · exact loop _ _ _ _ _ _ ⟨rfl, rfl, rfl, rfl, a, b, none, none, rfl, ha, hb, rfl, rfl⟩
    · rw [bt_cmp_ge, l0, pk_lLE (by omega) (by omega)] at z
      omega
  · exact False.elim h
end
section
/-! WHAT IS DARED: parts -/
def bt_CX6_firstBehind : bt_C := [(139, 1, 3, sX6_isPast)]
def sX6_firstBehind : bt_Sp := fun as M N K => match as with
  | [.ref c] => ∃ w, c = 67 ∧ bt_mW M 0 w ∧ K (some (.int (if bt_fb w < w 12 1 then nI (bt_fb w) else -4))) M N
  | _ => False
theorem mX6_firstBehind : bt_MT bt_TX6_firstBehind bt_FX6 bt_CX6_firstBehind 1 2 sX6_firstBehind := by
  intro as M N Rt h P hP
  unfold sX6_firstBehind at h
  split at h
  · obtain ⟨w, rfl, hw, h⟩ := h
    have f2 := hw.1.2.1
    have g2 : M 67 2 = nI (w 12 1) := hw.2.2.1
    have loop : ∀ v pc L st M' N', (pc = 2 ∧ st = [] ∧ M' = M ∧ N' = N ∧ ∃ k, k ≤ w 12 1 ∧ v = w 12 1 - k ∧ L = [some (.ref 67), some (.int (nI k))] ∧ bt_fbr w (w 12 1 - k) k = bt_fb w) → P pc L st M' N' := by
      refine bt_loop rfl hP 60 [2] (fun v pc L st M' N' => (pc = 2 ∧ st = [] ∧ M' = M ∧ N' = N ∧ ∃ k, k ≤ w 12 1 ∧ v = w 12 1 - k ∧ L = [some (.ref 67), some (.int (nI k))] ∧ bt_fbr w (w 12 1 - k) k = bt_fb w)) ?_
      rintro v pc L st M' N' ⟨rfl, rfl, hM, hN, k, hk, rfl, rfl, p1⟩
      rw [← hM, ← hN] at h
      rw [← hM] at g2 hw
      refine ⟨fun z1 => ?_, fun z1 => ?_⟩
      · have z1' := z1
        rw [g2, nI_leI (by omega) (by omega)] at z1'
        have e : w 12 1 - k = 0 := by omega
        rw [e, bt_fbr] at p1
        rw [if_neg (by omega)] at h
        exact ⟨fun _ => h, fun z => absurd z1 z⟩
      · have z1' := z1
        rw [g2, nI_leI (by omega) (by omega)] at z1'
        obtain ⟨r, hr⟩ : ∃ r, w 12 1 - k = r + 1 := ⟨w 12 1 - k - 1, by omega⟩
        rw [hr, bt_fbr] at p1
        have e1 := bt_mW_past hw (k := k) (by omega)
        have k1 := bt_wf11 hw.1 k
        refine ⟨0, k, _, rfl, rfl, rfl, by omega, e1, k1, ⟨fun z2 => ?_, fun z2 => ?_⟩⟩
        · have z3 : w 11 k = 0 := (bt_z01 k1).mp z2
          rw [if_neg (by omega)] at p1
          rw [← p1, if_pos (by omega)] at h
          exact ⟨fun z => absurd z z1, fun _ => h⟩
        · have z3 : ¬ w 11 k = 0 := fun c => z2 (by rw [c]; rfl)
          rw [if_pos (by omega)] at p1
          exact ⟨w 12 1 - (k + 1), by omega, rfl, rfl, hM, hN, k + 1, by omega, rfl, by rw [nI_1 k], by rw [show w 12 1 - (k + 1) = r by omega]; exact p1⟩
    refine bt_go rfl hP 60 [2] P (fun _ _ _ _ _ h => h) ?_
    exact loop _ _ _ _ _ _ ⟨rfl, rfl, rfl, rfl, 0, by omega, rfl, rfl, rfl⟩
  · exact False.elim h
/-- tenths of a chance to pass -/
def bt_ch (w : bt_W) (i k : Nat) : Nat := if bt_psB (w 7 k) (w 8 k) (bt_us w i 0) 0 0 = true then 10 else if bt_psB (w 7 k) (w 8 k) (bt_us w i (w 2 i)) 0 0 = true then w 3 i else 0
theorem bt_psB_mono {kd nd u u' f l : Nat} (h : u ≤ u') (hp : bt_psB kd nd u f l = true) : bt_psB kd nd u' f l = true := by
  simp only [bt_psB, Bool.or_eq_true, Bool.and_eq_true, beq_iff_eq, Nat.ble_eq] at hp ⊢
  omega
theorem bt_us_0 (w : bt_W) (i g : Nat) : bt_us w i 0 ≤ bt_us w i g := by
  unfold bt_us
  split <;> omega
theorem bt_us_9 {w : bt_W} (h : bt_wf w) (i g : Nat) (hg : g ≤ 9) : bt_us w i g ≤ 9 := by
  unfold bt_us
  split <;> omega
def bt_CX1_tenthsToPass : bt_C := [(97, 1, 3, sX4_ofUse), (100, 1, 5, sX4_passes)]
def sX1_tenthsToPass : bt_Sp := fun as M N K => match as with
  | [.ref c, .int i, .int k] => ∃ w i' k', c = 2 ∧ bt_cW M 2 w ∧ i = nI i' ∧ i' < w 12 0 ∧ k = nI k' ∧ k' < w 12 1 ∧ K (some (.int (nI (bt_ch w i' k')))) M N
  | _ => False
theorem mX1_tenthsToPass : bt_MT bt_TX1_tenthsToPass bt_FX1 bt_CX1_tenthsToPass 1 3 sX1_tenthsToPass := by
  intro as M N Rt h P hP
  unfold sX1_tenthsToPass at h
  split at h
  · obtain ⟨w, i, k, rfl, a1, rfl, hi, rfl, hk, h⟩ := h
    obtain ⟨hw, h8, h9, h10, h11, h12, h13, h14, h15, h16, h17, r1, r2, r3, r4, r5, r6, r7, r8⟩ := id a1
    obtain ⟨f1, f2, f3, f4, f5, f6, f7, f8, f9, f10, f11, f12, f13, f14, f15, f16, f17, f18⟩ := id hw
    unfold bt_ch at h
    refine bt_go0 rfl hP 60 ?_
    refine ⟨w, i, 0, Or.inl rfl, a1, rfl, hi, rfl, by omega, ?_⟩
    refine ⟨w, k, bt_us w i 0, 0, 0, Or.inl rfl, a1, rfl, hk, rfl, bt_us_9 hw i 0 (by omega), rfl, by omega, rfl, by omega, ?_⟩
    by_cases c1 : bt_psB (w 7 k) (w 8 k) (bt_us w i 0) 0 0 = true
    · rw [if_pos c1] at h ⊢
      exact ⟨fun z => absurd z (by decide), fun _ => h⟩
    · rw [if_neg c1] at h ⊢
      refine ⟨fun _ => ?_, fun z => absurd rfl z⟩
      refine ⟨_, rfl, i, rfl, by omega, ?_⟩
      refine ⟨w, i, w 2 i, Or.inl rfl, a1, rfl, hi, r3 i hi, f9 i, ?_⟩
      refine ⟨w, k, bt_us w i (w 2 i), 0, 0, Or.inl rfl, a1, rfl, hk, rfl, bt_us_9 hw i _ (f9 i), rfl, by omega, rfl, by omega, ?_⟩
      by_cases c2 : bt_psB (w 7 k) (w 8 k) (bt_us w i (w 2 i)) 0 0 = true
      · rw [if_pos c2] at h ⊢
        rw [← r4 i hi] at h
        exact ⟨fun z => absurd z (by decide), fun _ => ⟨_, rfl, i, rfl, by omega, h⟩⟩
      · rw [if_neg c2] at h ⊢
        exact ⟨fun _ => h, fun z => absurd rfl z⟩
  · exact False.elim h
def sX6_leftMany : bt_Sp := fun as M N K => match as with
  | [.ref c] => ∃ w, c = 67 ∧ bt_mW M 0 w ∧ K (some (.int (nI (w 12 0 - w 12 4)))) M N
  | _ => False
theorem mX6_leftMany : bt_MT bt_TX6_leftMany bt_FX6 [] 1 1 sX6_leftMany := by
  intro as M N Rt h P hP
  unfold sX6_leftMany at h
  split at h
  · obtain ⟨w, rfl, hw, h⟩ := h
    have g1 : M 67 1 = nI (w 12 0) := hw.2.1
    have g5 : M 68 88 = nI (w 12 4) := by simpa using hw.2.2.2.2.2.1
    rw [← pk_sub hw.1.2.2.1, ← g1, ← g5] at h
    exact bt_go0 rfl hP 60 ⟨_, rfl, 88, rfl, by omega, h⟩
  · exact False.elim h
end
section
/-! WHAT IS DARED: the model's chance -/
def bt_CX6_chance : bt_C := [(163, 1, 4, sX6_useOn), (177, 1, 5, sX6_isEnough)]
def sX6_chance : bt_Sp := fun as M N K => match as with
  | [.ref c, .int k, .int i] => ∃ w i' k', c = 67 ∧ bt_mW M 0 w ∧ i = nI i' ∧ i' < w 12 0 ∧ k = nI k' ∧ k' < w 12 1 ∧ K (some (.int (nI (bt_ch w i' k')))) M N
  | _ => False
set_option maxRecDepth 100000 in
theorem mX6_chance : bt_MT bt_TX6_chance bt_FX6 bt_CX6_chance 1 7 sX6_chance := by
  intro as M N Rt h P hP
  unfold sX6_chance at h
  split at h
  · obtain ⟨w, i, k, rfl, a1, rfl, hi, rfl, hk, h⟩ := h
    obtain ⟨hw, g1, g2, g3, g4, g5, g6, r0, r1, r2, r3, r4, r5, r6, c7, c8, c9, c10, c11⟩ := id a1
    obtain ⟨f1, f2, f3, f4, f5, f6, f7, f8, f9, f10, f11, f12, f13, f14, f15, f16, f17, f18⟩ := id hw
    have e7 : M 68 (58 + 5 * k) = nI (w 7 k) := by simpa using c7 k hk
    have e8 : M 68 (58 + 5 * k + 1) = nI (w 8 k) := by simpa using c8 k hk
    have e3 : M 68 (7 * i + 3) + 10 = nI (w 3 i) := by
      have := r3 i hi
      rw [Nat.zero_add] at this
      rw [this, bt_m10]
    have e2 : M 68 (7 * i + 2) = nI (w 2 i) := by simpa using r2 i hi
    have o10 := f10 i
    have mono : bt_psB (w 7 k) (w 8 k) (bt_us w i 0) 0 0 = true → bt_psB (w 7 k) (w 8 k) (bt_us w i (w 2 i)) 0 0 = true := fun c => bt_psB_mono (bt_us_0 w i _) c
    unfold bt_ch at h
    refine bt_go0 rfl hP 80 ?_
    refine ⟨_, rfl, 58 + 5 * k, by simp only [bt_lit, pk_mul, nI_add], by omega, ?_⟩
    refine ⟨_, rfl, 58 + 5 * k + 1, by simp only [bt_lit, pk_mul, nI_add], by omega, ?_⟩
    refine ⟨_, rfl, 7 * i + 3, by simp only [bt_lit, pk_mul, nI_add], by omega, ?_⟩
    refine ⟨_, rfl, 7 * i + 2, by simp only [bt_lit, pk_mul, nI_add], by omega, ?_⟩
    refine ⟨0, i, w 2 i, w 6 i, w 1 i, w 4 i, rfl, rfl, by omega, rfl, by omega, e2, f9 i, r6 i hi, f13 i, r1 i hi, f8 i, r4 i hi, f11 i, ?_⟩
    refine ⟨w 7 k, w 8 k, 0, bt_us w i (w 2 i), rfl, e7, f14 k, e8, f15 k, rfl, by omega, rfl, bt_us_9 hw i _ (f9 i), ?_⟩
    by_cases c2 : bt_psB (w 7 k) (w 8 k) (bt_us w i (w 2 i)) 0 0 = true
    · rw [if_pos c2] at h ⊢
      refine ⟨fun z => absurd z (by decide), fun _ => ?_⟩
      refine ⟨0, i, 0, w 6 i, w 1 i, w 4 i, rfl, rfl, by omega, rfl, by omega, rfl, by omega, r6 i hi, f13 i, r1 i hi, f8 i, r4 i hi, f11 i, ?_⟩
      refine ⟨w 7 k, w 8 k, 0, bt_us w i 0, rfl, e7, f14 k, e8, f15 k, rfl, by omega, rfl, bt_us_9 hw i 0 (by omega), ?_⟩
      by_cases c1 : bt_psB (w 7 k) (w 8 k) (bt_us w i 0) 0 0 = true
      · rw [if_pos c1] at h ⊢
        refine ⟨fun z => absurd z (by decide), fun _ => ?_⟩
        have e : nI 10 = (M 68 (7 * i + 3) + 10) + (10 - (M 68 (7 * i + 3) + 10)) := by
          rw [e3, show (10 : Int32) = nI 10 from rfl, pk_sub o10, nI_add, show w 3 i + (10 - w 3 i) = 10 by omega]
        rw [e] at h
        exact h
      · rw [if_neg c1] at h ⊢
        refine ⟨fun _ => ?_, fun z => absurd rfl z⟩
        have e : nI (w 3 i) = (M 68 (7 * i + 3) + 10) + 0 := by
          rw [e3, show (0 : Int32) = nI 0 from rfl, nI_add, Nat.add_zero]
        rw [e] at h
        exact h
    · have c1 : ¬ bt_psB (w 7 k) (w 8 k) (bt_us w i 0) 0 0 = true := fun c => c2 (mono c)
      rw [if_neg c1, if_neg c2] at h
      rw [if_neg c2]
      refine ⟨fun _ => ?_, fun z => absurd rfl z⟩
      refine ⟨0, i, 0, w 6 i, w 1 i, w 4 i, rfl, rfl, by omega, rfl, by omega, rfl, by omega, r6 i hi, f13 i, r1 i hi, f8 i, r4 i hi, f11 i, ?_⟩
      refine ⟨w 7 k, w 8 k, 0, bt_us w i 0, rfl, e7, f14 k, e8, f15 k, rfl, by omega, rfl, bt_us_9 hw i 0 (by omega), ?_⟩
      rw [if_neg c1]
      exact ⟨fun _ => h, fun z => absurd rfl z⟩
  · exact False.elim h
end
section
/-! WHAT IS DARED: the numbers -/
def bt_gs (w : bt_W) (k i : Nat) : Int := ((w 0 i * w 12 2 : Nat) : Int) - ((w 0 i * w 9 k : Nat) : Int)
def bt_sz (w : bt_W) (k : Nat) : Nat → Int
  | 0 => 0
  | j + 1 => bt_sz w k j + bt_gs w k (w 12 0 - 1 - j)
theorem bt_gs_le {w : bt_W} (h : bt_wf w) (k i : Nat) : -81 ≤ bt_gs w k i ∧ bt_gs w k i ≤ 81 := by
  obtain ⟨h1, h2, h3, h4, h5, h6, h7, h8, h9, h10, h11, h12, h13, h14, h15, h16, h17, h18⟩ := h
  have e1 : w 0 i * w 12 2 ≤ 9 * 9 := Nat.mul_le_mul (h7 i) h4
  have e2 : w 0 i * w 9 k ≤ 9 * 5 := Nat.mul_le_mul (h7 i) (h16 k)
  unfold bt_gs
  omega
theorem bt_sz_le {w : bt_W} (h : bt_wf w) (k : Nat) : ∀ j : Nat, -(81 * j : Int) ≤ bt_sz w k j ∧ bt_sz w k j ≤ 81 * j
  | 0 => by simp [bt_sz]
  | j + 1 => by
    have h1 := bt_sz_le h k j
    have h2 := bt_gs_le h k (w 12 0 - 1 - j)
    simp only [bt_sz]
    omega
theorem bt_ch_le {w : bt_W} (h : bt_wf w) (i k : Nat) : bt_ch w i k ≤ 10 := by
  obtain ⟨h1, h2, h3, h4, h5, h6, h7, h8, h9, h10, h11, h12, h13, h14, h15, h16, h17, h18⟩ := h
  unfold bt_ch
  have := h10 i
  split
  · omega
  · split <;> omega
/-- what daring in this stretch is worth, over 10^(j+1) -/
def bt_gz (t : Nat) (s : Int) (v p b : Nat) : Int := ((t : Int) * s - 10 * (v : Int)) * (p : Int) + (10 - (t : Int)) * (b : Int)
def bt_bd (w : bt_W) (k v : Nat) : Nat → Nat
  | 0 => 0
  | j + 1 => (max (bt_gz (bt_ch w (w 12 0 - 1 - j) k) (bt_sz w k (j + 1)) v (10 ^ j) (bt_bd w k v j)) (10 * (bt_bd w k v j : Int))).toNat
theorem bt_ts_le {t : Nat} {s : Int} (ht : t ≤ 10) (hs : -648 ≤ s ∧ s ≤ 648) : -6480 ≤ (t : Int) * s ∧ (t : Int) * s ≤ 6480 := by
  have e1 : (t : Int) * s ≤ (t : Int) * 648 := Int.mul_le_mul_of_nonneg_left hs.2 (by omega)
  have e2 : (t : Int) * (-648) ≤ (t : Int) * s := Int.mul_le_mul_of_nonneg_left hs.1 (by omega)
  omega
theorem bt_gz_le {t v p b : Nat} {s : Int} (ht : t ≤ 10) (hs : -648 ≤ s ∧ s ≤ 648) : bt_gz t s v p b ≤ 6480 * (p : Int) + 10 * (b : Int) := by
  have h1 := bt_ts_le ht hs
  have e1 : ((t : Int) * s - 10 * (v : Int)) * (p : Int) ≤ 6480 * (p : Int) := Int.mul_le_mul_of_nonneg_right (by omega) (by omega)
  have e2 : (10 - (t : Int)) * (b : Int) ≤ 10 * (b : Int) := Int.mul_le_mul_of_nonneg_right (by omega) (by omega)
  unfold bt_gz
  omega
theorem bt_bd_le {w : bt_W} (h : bt_wf w) (k v : Nat) : ∀ j, j ≤ 8 → bt_bd w k v j ≤ 6480 * (j * 10 ^ j)
  | 0, _ => by simp [bt_bd]
  | j + 1, hj => by
    have ih := bt_bd_le h k v j (by omega)
    have hs := bt_sz_le h k (j + 1)
    have hg := bt_gz_le (v := v) (p := 10 ^ j) (b := bt_bd w k v j) (bt_ch_le h (w 12 0 - 1 - j) k) (s := bt_sz w k (j + 1)) (by omega)
    have e : (j + 1) * 10 ^ (j + 1) = 10 * (j * 10 ^ j) + 10 * 10 ^ j := by
      rw [Nat.pow_succ, Nat.add_mul, Nat.one_mul, Nat.mul_comm (10 ^ j) 10, Nat.mul_left_comm]
    rw [e, bt_bd]
    have e3 : ((10 ^ j : Nat) : Int) = ((10 ^ j : Nat) : Int) := rfl
    generalize 10 ^ j = p at *
    generalize j * p = jp at *
    generalize bt_gz (bt_ch w (w 12 0 - 1 - j) k) (bt_sz w k (j + 1)) v p (bt_bd w k v j) = g at *
    generalize bt_bd w k v j = b at *
    omega
theorem bt_i10 : (10 : Int32).toInt = 10 := by decide
theorem bt_tx {t : Nat} {x : Int32} (ht : t ≤ 10) (hs : -648 ≤ x.toInt ∧ x.toInt ≤ 648) : (nI t * x).toInt = (t : Int) * x.toInt := by
  have h1 := bt_ts_le ht hs
  rw [Int32.toInt_mul, nI_toInt (by omega)]
  exact Int.bmod_eq_of_le (by omega) (by omega)
theorem bt_10v {v : Nat} (hv : v ≤ 99) : (10 * nI v : Int32).toInt = 10 * (v : Int) := by
  rw [Int32.toInt_mul, nI_toInt (by omega), bt_i10]
  exact Int.bmod_eq_of_le (by omega) (by omega)
theorem bt_10t {t : Nat} (ht : t ≤ 10) : (10 - nI t : Int32).toInt = 10 - (t : Int) := by
  rw [Int32.toInt_sub, nI_toInt (by omega), bt_i10]
  exact Int.bmod_eq_of_le (by omega) (by omega)
theorem bt_gz_c {t v p b : Nat} {x : Int32} (ht : t ≤ 10) (hs : -648 ≤ x.toInt ∧ x.toInt ≤ 648) (hv : v ≤ 99) (hp : p ≤ 100000000) (hb : b ≤ 5184000000000) : ((nI t * x - 10 * nI v).toInt64 * lN p + (10 - nI t).toInt64 * lN b).toInt = bt_gz t x.toInt v p b := by
  have h1 := bt_ts_le ht hs
  have a1 : (nI t * x - 10 * nI v).toInt = (t : Int) * x.toInt - 10 * (v : Int) := by
    rw [Int32.toInt_sub, bt_tx ht hs, bt_10v hv]
    exact Int.bmod_eq_of_le (by omega) (by omega)
  have e1 : ((t : Int) * x.toInt - 10 * (v : Int)) * (p : Int) ≤ 7470 * (p : Int) := Int.mul_le_mul_of_nonneg_right (by omega) (by omega)
  have e2 : (-7470) * (p : Int) ≤ ((t : Int) * x.toInt - 10 * (v : Int)) * (p : Int) := Int.mul_le_mul_of_nonneg_right (by omega) (by omega)
  have e3 : (10 - (t : Int)) * (b : Int) ≤ 10 * (b : Int) := Int.mul_le_mul_of_nonneg_right (by omega) (by omega)
  have e4 : 0 * (b : Int) ≤ (10 - (t : Int)) * (b : Int) := Int.mul_le_mul_of_nonneg_right (by omega) (by omega)
  have m1 : ((nI t * x - 10 * nI v).toInt64 * lN p).toInt = ((t : Int) * x.toInt - 10 * (v : Int)) * (p : Int) := by
    rw [Int64.toInt_mul, Int32.toInt_toInt64, a1, pk_lT (by omega)]
    exact Int.bmod_eq_of_le (by omega) (by omega)
  have m2 : ((10 - nI t).toInt64 * lN b).toInt = (10 - (t : Int)) * (b : Int) := by
    rw [Int64.toInt_mul, Int32.toInt_toInt64, bt_10t ht, pk_lT (by omega)]
    exact Int.bmod_eq_of_le (by omega) (by omega)
  rw [Int64.toInt_add, m1, m2]
  unfold bt_gz
  exact Int.bmod_eq_of_le (by omega) (by omega)
theorem bt_gz_m {t v p b : Nat} {x : Int32} (ht : t ≤ 10) (hs : -648 ≤ x.toInt ∧ x.toInt ≤ 648) (hv : v ≤ 99) (hp : p ≤ 100000000) (hb : b ≤ 5184000000000) : ((nI t * x).toInt64 * lN p + (10 - nI t).toInt64 * lN b - 10 * (nI v).toInt64 * lN p).toInt = bt_gz t x.toInt v p b := by
  have h1 := bt_ts_le ht hs
  have e1 : ((t : Int) * x.toInt) * (p : Int) ≤ 6480 * (p : Int) := Int.mul_le_mul_of_nonneg_right (by omega) (by omega)
  have e2 : (-6480) * (p : Int) ≤ ((t : Int) * x.toInt) * (p : Int) := Int.mul_le_mul_of_nonneg_right (by omega) (by omega)
  have e3 : (10 - (t : Int)) * (b : Int) ≤ 10 * (b : Int) := Int.mul_le_mul_of_nonneg_right (by omega) (by omega)
  have e4 : 0 * (b : Int) ≤ (10 - (t : Int)) * (b : Int) := Int.mul_le_mul_of_nonneg_right (by omega) (by omega)
  have e5 : (10 * (v : Int)) * (p : Int) ≤ 990 * (p : Int) := Int.mul_le_mul_of_nonneg_right (by omega) (by omega)
  have e6 : 0 * (p : Int) ≤ (10 * (v : Int)) * (p : Int) := Int.mul_le_mul_of_nonneg_right (by omega) (by omega)
  have m1 : ((nI t * x).toInt64 * lN p).toInt = ((t : Int) * x.toInt) * (p : Int) := by
    rw [Int64.toInt_mul, Int32.toInt_toInt64, bt_tx ht hs, pk_lT (by omega)]
    exact Int.bmod_eq_of_le (by omega) (by omega)
  have m2 : ((10 - nI t).toInt64 * lN b).toInt = (10 - (t : Int)) * (b : Int) := by
    rw [Int64.toInt_mul, Int32.toInt_toInt64, bt_10t ht, pk_lT (by omega)]
    exact Int.bmod_eq_of_le (by omega) (by omega)
  have m3 : (10 * (nI v).toInt64 : Int64).toInt = 10 * (v : Int) := by
    rw [Int64.toInt_mul, Int32.toInt_toInt64, nI_toInt (by omega), show (10 : Int64).toInt = 10 from by decide]
    exact Int.bmod_eq_of_le (by omega) (by omega)
  have m4 : (10 * (nI v).toInt64 * lN p).toInt = (10 * (v : Int)) * (p : Int) := by
    rw [Int64.toInt_mul, m3, pk_lT (by omega)]
    exact Int.bmod_eq_of_le (by omega) (by omega)
  have m5 : ((nI t * x).toInt64 * lN p + (10 - nI t).toInt64 * lN b).toInt = ((t : Int) * x.toInt) * (p : Int) + (10 - (t : Int)) * (b : Int) := by
    rw [Int64.toInt_add, m1, m2]
    exact Int.bmod_eq_of_le (by omega) (by omega)
  rw [Int64.toInt_sub, m5, m4]
  unfold bt_gz
  have hx : ((t : Int) * x.toInt - 10 * (v : Int)) * (p : Int) = ((t : Int) * x.toInt) * (p : Int) - (10 * (v : Int)) * (p : Int) := Int.sub_mul _ _ _
  rw [hx, show ((t : Int) * x.toInt) * (p : Int) - (10 * (v : Int)) * (p : Int) + (10 - (t : Int)) * (b : Int) = ((t : Int) * x.toInt) * (p : Int) + (10 - (t : Int)) * (b : Int) - (10 * (v : Int)) * (p : Int) by omega]
  exact Int.bmod_eq_of_le (by omega) (by omega)
end
section
/-! WHAT IS DARED: both sides -/
theorem bu_sv {x : Int32} {s : Int} {a d b : Nat} (hx : x.toInt = s) (hs : -567 ≤ s ∧ s ≤ 567) (ha : a ≤ 9) (hd : d ≤ 9) (hb : b ≤ 5) : (x + nI a * (nI d - nI b)).toInt = s + (((a * d : Nat) : Int) - ((a * b : Nat) : Int)) := by
  have e1 : (nI d - nI b).toInt = (d : Int) - (b : Int) := by
    rw [Int32.toInt_sub, nI_toInt (by omega), nI_toInt (by omega)]
    exact Int.bmod_eq_of_le (by omega) (by omega)
  have b1 : a * d ≤ 9 * 9 := Nat.mul_le_mul ha hd
  have b2 : a * b ≤ 9 * 5 := Nat.mul_le_mul ha hb
  have e2 : (nI a * (nI d - nI b)).toInt = ((a * d : Nat) : Int) - ((a * b : Nat) : Int) := by
    rw [Int32.toInt_mul, nI_toInt (by omega), e1, Int.mul_sub, ← Int.natCast_mul, ← Int.natCast_mul]
    exact Int.bmod_eq_of_le (by omega) (by omega)
  rw [Int32.toInt_add, hx, e2]
  exact Int.bmod_eq_of_le (by omega) (by omega)
theorem bt_p10 : ∀ j, j < 9 → j * 10 ^ j ≤ 800000000 ∧ 10 ^ j ≤ 100000000 ∧ 0 < 10 ^ j := by decide +kernel
theorem bt_bd_n {w : bt_W} (h : bt_wf w) (k v : Nat) {j : Nat} (hj : j ≤ 8) : bt_bd w k v j ≤ 5184000000000 := by
  have h1 := bt_bd_le h k v j hj
  have h2 := (bt_p10 j (by omega)).1
  omega
def bt_wh (w : bt_W) (k v : Nat) : Nat → Int32
  | 0 => -4
  | j + 1 => if 10 * (bt_bd w k v j : Int) < bt_gz (bt_ch w (w 12 0 - 1 - j) k) (bt_sz w k (j + 1)) v (10 ^ j) (bt_bd w k v j) then nI (w 12 0 - 1 - j) else bt_wh w k v j
theorem bt_bd_step {w : bt_W} (hw : bt_wf w) {k v j : Nat} {g : Int64} (hj : j < 8) (hg : g.toInt = bt_gz (bt_ch w (w 12 0 - 1 - j) k) (bt_sz w k (j + 1)) v (10 ^ j) (bt_bd w k v j)) :
    (lN (10 * bt_bd w k v j) < g ↔ 10 * (bt_bd w k v j : Int) < bt_gz (bt_ch w (w 12 0 - 1 - j) k) (bt_sz w k (j + 1)) v (10 ^ j) (bt_bd w k v j)) ∧ (if g < lN (10 * bt_bd w k v j) then lN (10 * bt_bd w k v j) else g) = lN (bt_bd w k v (j + 1)) ∧ (lN (10 * bt_bd w k v j) < g → g = lN (bt_bd w k v (j + 1))) ∧ (¬ lN (10 * bt_bd w k v j) < g → lN (10 * bt_bd w k v j) = lN (bt_bd w k v (j + 1))) := by
  have hb := bt_bd_n hw k v (j := j) (by omega)
  have hp := (bt_p10 j (by omega)).2.1
  have hs := bt_sz_le hw k (j + 1)
  have hG := bt_gz_le (v := v) (p := 10 ^ j) (b := bt_bd w k v j) (bt_ch_le hw (w 12 0 - 1 - j) k) (s := bt_sz w k (j + 1)) (by omega)
  rw [bt_bd]
  generalize bt_gz (bt_ch w (w 12 0 - 1 - j) k) (bt_sz w k (j + 1)) v (10 ^ j) (bt_bd w k v j) = G at *
  generalize bt_bd w k v j = b at *
  generalize 10 ^ j = p at *
  have lt : lN (10 * b) < g ↔ 10 * (b : Int) < G := by
    rw [Int64.lt_iff_toInt_lt, pk_lT (by omega), hg]
    omega
  have gl : g < lN (10 * b) ↔ G < 10 * (b : Int) := by
    rw [Int64.lt_iff_toInt_lt, pk_lT (by omega), hg]
    omega
  have c3 : lN (10 * b) < g → g = lN (max G (10 * (b : Int))).toNat := fun c => by
    rw [lt] at c
    apply Int64.toInt_inj.mp
    rw [hg, pk_lT (by omega)]
    omega
  have c4 : ¬ lN (10 * b) < g → lN (10 * b) = lN (max G (10 * (b : Int))).toNat := fun c => by
    rw [lt] at c
    rw [show (max G (10 * (b : Int))).toNat = 10 * b by omega]
  refine ⟨lt, ?_, c3, c4⟩
  by_cases c : lN (10 * b) < g
  · rw [if_neg (fun z => by rw [gl] at z; rw [lt] at c; omega)]
    exact c3 c
  · by_cases d : g < lN (10 * b)
    · rw [if_pos d]
      exact c4 c
    · rw [if_neg d, ← c4 c]
      apply Int64.toInt_inj.mp
      rw [lt] at c
      rw [gl] at d
      rw [hg, pk_lT (by omega)]
      omega
theorem bt_m1 (x : Int32) : x + (-1) = x - 1 := (Int32.sub_eq_add_neg x 1).symm
theorem bt_dlt {i : Int32} {n j a : Nat} (hi : i = nI (n - j) - 1) (hn : n ≤ 8) (ha : a ≤ 8) : i < nI a ↔ n - j ≤ a := by
  rw [Int32.lt_iff_toInt_lt, hi, bt_nI_sub1 (by omega), nI_toInt (by omega)]
  omega
def bt_CX1_bestDaring : bt_C := [(87, 0, 3, sX1_tenthsToPass), (91, 0, 2, sJ9_max_f86c9)]
def sX1_bestDaring : bt_Sp := fun as M N K => match as with
  | [.ref c, .ref d, .int k, .int v] => ∃ w k' v', c = 64 ∧ d = 2 ∧ bt_cW M 2 w ∧ k = nI k' ∧ k' < w 12 1 ∧ v = nI v' ∧ v' ≤ 99 ∧ ∀ M' N', (∀ x : Nat, x ≠ 64 → M' x = M x) → M' 64 3 = bt_wh w k' v' (w 12 0 - w 12 4) → N' 64 2 = lN (10 ^ (w 12 0 - w 12 4)) → K (some (.long (lN (bt_bd w k' v' (w 12 0 - w 12 4))))) M' N'
  | _ => False
set_option maxRecDepth 100000 in
theorem mX1_bestDaring : bt_MT bt_TX1_bestDaring bt_FX1 bt_CX1_bestDaring 3 13 sX1_bestDaring := by
  intro as M N Rt h P hP
  unfold sX1_bestDaring at h
  split at h
  · obtain ⟨w, k, v, rfl, rfl, a1, rfl, hk, rfl, hv, h⟩ := h
    obtain ⟨hw, h8, h9, h10, h11, h12, h13, h14, h15, h16, h17, r1, r2, r3, r4, r5, r6, r7, r8⟩ := id a1
    obtain ⟨f1, f2, f3, f4, f5, f6, f7, f8, f9, f10, f11, f12, f13, f14, f15, f16, f17, f18⟩ := id hw
    have loop : ∀ u pc L st M' N', (pc = 25 ∧ st = [] ∧ ∃ (j : Nat) (x i : Int32) (y8 y9 y10 y11 y12 : Option Value), j ≤ w 12 0 - w 12 4 ∧ u = w 12 0 - w 12 4 - j ∧ i = nI (w 12 0 - j) - 1 ∧ x.toInt = bt_sz w k j ∧ L = [some (.ref 64), some (.ref 2), some (.int (nI k)), some (.int (nI v)), some (.long (lN (bt_bd w k v j))), none, some (.int x), some (.int i), y8, y9, y10, y11, y12] ∧ (∀ c : Nat, c ≠ 64 → M' c = M c) ∧ M' 64 3 = bt_wh w k v j ∧ N' 64 2 = lN (10 ^ j)) → P pc L st M' N' := by
      refine bt_loop rfl hP 100 [25] (fun u pc L st M' N' => (pc = 25 ∧ st = [] ∧ ∃ (j : Nat) (x i : Int32) (y8 y9 y10 y11 y12 : Option Value), j ≤ w 12 0 - w 12 4 ∧ u = w 12 0 - w 12 4 - j ∧ i = nI (w 12 0 - j) - 1 ∧ x.toInt = bt_sz w k j ∧ L = [some (.ref 64), some (.ref 2), some (.int (nI k)), some (.int (nI v)), some (.long (lN (bt_bd w k v j))), none, some (.int x), some (.int i), y8, y9, y10, y11, y12] ∧ (∀ c : Nat, c ≠ 64 → M' c = M c) ∧ M' 64 3 = bt_wh w k v j ∧ N' 64 2 = lN (10 ^ j))) ?_
      rintro u pc L st M' N' ⟨rfl, rfl, j, x, i, y8, y9, y10, y11, y12, hj, rfl, hi, hx, rfl, t1, t2, t3⟩
      have e16 : M' 2 16 = nI (w 12 4) := by rw [t1 2 (by omega)]; exact h16
      have e14 : M' 2 14 = nI (w 12 2) := by rw [t1 2 (by omega)]; exact h14
      have hc : bt_cW M' 2 w := bt_cW_kept a1 (fun x _ _ => t1 x (by omega))
      refine ⟨fun z1 => ?_, fun z1 => ?_⟩
      · rw [e16, bt_dlt hi f1 (by omega)] at z1
        have e : j = w 12 0 - w 12 4 := by omega
        rw [e] at t2 t3 ⊢
        exact h M' N' t1 t2 t3
      · rw [e16, bt_dlt hi f1 (by omega)] at z1
        obtain ⟨i', hi'⟩ : ∃ i', w 12 0 - j = i' + 1 := ⟨w 12 0 - j - 1, by omega⟩
        have ei : i = nI i' := by rw [hi, hi', nI_pred]
        have ej : w 12 0 - 1 - j = i' := by omega
        have m1 : M' 3 i' = nI (w 0 i') := by rw [t1 3 (by omega)]; exact r1 i' (by omega)
        have m7 : M' 9 k = nI (w 9 k) := by rw [t1 9 (by omega)]; exact r7 k hk
        have sz := bt_sz_le hw k j
        have sz1 := bt_sz_le hw k (j + 1)
        have hX : (x + M' 3 i' * (M' 2 14 - M' 9 k)).toInt = bt_sz w k (j + 1) := by
          rw [m1, e14, m7, bu_sv hx (by omega) (f7 i') f4 (f16 k), bt_sz, ej]
          rfl
        have hb := bt_bd_n hw k v (j := j) (by omega)
        have hp := (bt_p10 j (by omega)).2.1
        have hgo := bt_gz_c (t := bt_ch w i' k) (v := v) (p := 10 ^ j) (b := bt_bd w k v j) (bt_ch_le hw i' k) (by rw [hX]; omega) hv hp hb
        rw [hX, ← ej, ← t3] at hgo
        rw [ej] at hgo
        have hwait : (10 : Int64) * lN (bt_bd w k v j) = lN (10 * bt_bd w k v j) := lN_mul 10 _
        have hgo2 := hgo
        rw [← ej] at hgo2
        obtain ⟨s1, s2, s3, s4⟩ := bt_bd_step hw (k := k) (v := v) (j := j) (by omega) hgo2
        rw [← hwait] at s1 s2 s3 s4
        refine ⟨_, rfl, i', ei, by omega, ?_⟩
        refine ⟨_, rfl, k, rfl, by omega, ?_⟩
        refine ⟨w, i', k, rfl, hc, ei, by omega, rfl, hk, ?_⟩
        intro N1 hN1
        have n1 : N1 64 2 = lN (10 ^ (j + 1)) := by
          rw [hN1, bt_up_s, pk_uLs, t3, show (10 : Int64) = lN 10 from rfl, lN_mul, Nat.pow_succ]
        have ii : i + (-1) = nI (w 12 0 - (j + 1)) - 1 := by
          rw [bt_m1, ei, show w 12 0 - (j + 1) = i' by omega]
        rw [ej] at s1 s2 s3 s4
        refine ⟨fun z2 => ?_, fun z2 => ?_⟩
        · rw [bt_cmp_le, ← Int64.not_lt, s1] at z2
          refine ⟨w 12 0 - w 12 4 - (j + 1), by omega, rfl, rfl, j + 1, _, _, _, _, _, _, _, by omega, rfl, ii, hX, by rw [s2], t1, ?_, n1⟩
          rw [bt_wh, ej, if_neg z2]
          exact t2
        · rw [bt_cmp_le, ← Int64.not_lt, s1] at z2
          intro M1 hM1
          refine ⟨w 12 0 - w 12 4 - (j + 1), by omega, rfl, rfl, j + 1, _, _, _, _, _, _, _, by omega, rfl, ii, hX, by rw [s2], ?_, ?_, n1⟩
          · intro c hc
            rw [hM1, bt_up_n hc]
            exact t1 c hc
          · rw [bt_wh, ej, if_pos (Classical.not_not.mp z2), hM1, bt_up_s, pk_us]
            exact ei
    refine bt_go rfl hP 60 [25] P (fun _ _ _ _ _ h => h) ?_
    intro N1 hN1 M1 hM1
    refine loop _ _ _ _ _ _ ⟨rfl, rfl, 0, 0, _, none, none, none, none, none, by omega, rfl, ?_, rfl, rfl, ?_, ?_, ?_⟩
    · rw [hM1, bt_up_n (by omega), h8]
      rfl
    · intro c hc
      rw [hM1, bt_up_n hc]
    · rw [hM1, bt_up_s, pk_us]
      rfl
    · rw [hN1, bt_up_s, pk_uLs]
      rfl
  · exact False.elim h
def f_dare : bt_fn := fun t S => match t, S with
  | [.int v, .int x], (w, im, u, z, q) => some (.long (if bt_in v 100 ∧ bt_in x 3 then (if bt_fb w < w 12 1 then (if x = 2 then (bt_wh w (bt_fb w) v.toNatClampNeg (w 12 0 - w 12 4)).toInt64 else bt_lw (bt_bd w (bt_fb w) v.toNatClampNeg (w 12 0 - w 12 4)) (10 ^ (w 12 0 - w 12 4)) x) else -2) else -1), (w, im, u, z, q))
  | _, _ => none
end
section
/-! CALLS, BOTH SIDES: dare -/
def bt_CX5_dare : bt_C := [(57, 0, 3, sX5_within), (221, 1, 1, sX4_firstBehind), (226, 1, 4, sX1_bestDaring), (204, 0, 3, sX5_lowest)]
def sX5_dare : bt_Sp := bt_spC f_dare
set_option maxRecDepth 100000 in
theorem mX5_dare : bt_MT bt_TX5_dare bt_FX5 bt_CX5_dare 3 6 sX5_dare := by
  intro as M N Rt h P hP
  obtain ⟨t, S, r, S', rfl, hI, hf, h⟩ := bt_spC_e h
  obtain ⟨w, im, u, z, q⟩ := S
  unfold f_dare at hf
  split at hf
  · next v x _ _ _ _ _ e =>
    cases e
    obtain ⟨rfl, rfl⟩ := bt_some hf
    obtain ⟨a1, a2, a3, a4, a5, a6, a7, a8, a9, a10, a11, a12⟩ := id hI
    obtain ⟨hw, h8, h9, h10, h11, h12, h13, h14, h15, h16, h17, r1, r2, r3, r4, r5, r6, r7, r8⟩ := id a1
    obtain ⟨f1, f2, f3, f4, f5, f6, f7, f8, f9, f10, f11, f12, f13, f14, f15, f16, f17, f18⟩ := id hw
    have hbad : ¬ (bt_in v 100 ∧ bt_in x 3) → Rt (some (.long (-1))) M N := fun y => by
      rw [if_neg y] at h
      exact h M N (fun _ _ => rfl) hI
    refine bt_go0 rfl hP 80 ?_
    refine ⟨fun y => ?_, fun y => ⟨fun y2 => ?_, fun y2 => ?_⟩⟩
    · rw [bt_bi_0, bt_in_c (k := 99) (show (99 : Int32) = nI 99 from rfl) (by omega)] at y
      exact hbad (fun c => y c.1)
    rotate_left
    · rw [bt_bi_0, bt_in_c (k := 2) (show (2 : Int32) = nI 2 from rfl) (by omega)] at y2
      exact hbad (fun c => y2 c.2)
    · rw [bt_bi_n0, bt_in_c (k := 99) (show (99 : Int32) = nI 99 from rfl) (by omega)] at y
      rw [bt_bi_n0, bt_in_c (k := 2) (show (2 : Int32) = nI 2 from rfl) (by omega)] at y2
      have ok : bt_in v 100 ∧ bt_in x 3 := ⟨y, y2⟩
      rw [if_pos ok] at h
      obtain ⟨v, hv, rfl⟩ := bt_in_e y
      rw [bt_clm (by omega)] at h
      refine ⟨w, Or.inl rfl, a1, ?_⟩
      by_cases c : bt_fb w < w 12 1
      · rw [if_pos c] at h ⊢
        refine ⟨fun _ => ?_, fun z => absurd (Int32.not_lt.mp (nI_pos (show bt_fb w < 2 ^ 31 by omega))) z⟩
        refine ⟨w, bt_fb w, v, rfl, rfl, a1, rfl, c, rfl, by omega, fun M1 N1 t1 t2 t3 => ?_⟩
        have key := h M1 N1 (fun x hx => t1 x (by omega)) (bt_cI_same hI (fun x hx => t1 x (by omega)) (by rw [t1 49 (by omega)]))
        have hb := bt_bd_n hw (bt_fb w) v (j := w 12 0 - w 12 4) (by omega)
        have hp := (bt_p10 (w 12 0 - w 12 4) (by omega)).2
        refine ⟨fun z2 => ?_, fun z2 => ?_⟩
        · rw [if_neg z2] at key
          exact ⟨_, _, rfl, t3, hp.2, by omega, by omega, key⟩
        · rw [if_pos z2, ← t2] at key
          exact key
      · rw [if_neg c] at h ⊢
        refine ⟨fun z => absurd z (by decide), fun _ => ?_⟩
        exact h M N (fun _ _ => rfl) hI
  · cases hf
def bt_CX6_dare : bt_C := [(46, 0, 3, sX6_in), (246, 1, 1, sX6_firstBehind), (143, 1, 2, sX6_paceOn), (251, 1, 3, sX6_chance), (228, 0, 3, sX6_lowest)]
def sX6_dare : bt_Sp := bt_spM f_dare
set_option maxRecDepth 100000 in
theorem mX6_dare : bt_MT bt_TX6_dare bt_FX6 bt_CX6_dare 3 17 sX6_dare := by
  intro as M N Rt h P hP
  obtain ⟨t, S, r, S', rfl, hI, hf, h⟩ := bt_spM_e h
  obtain ⟨w, im, u, z, q⟩ := S
  unfold f_dare at hf
  split at hf
  · next v x _ _ _ _ _ e =>
    cases e
    obtain ⟨rfl, rfl⟩ := bt_some hf
    obtain ⟨a1, a2, a3, a4, a5, a6, a7, a8, a9, a10, a11, a12, a13, a14, a15⟩ := id hI
    obtain ⟨hw, g1, g2, g3, g4, g5, g6, r0, r1, r2, r3, r4, r5, r6, c7, c8, c9, c10, c11⟩ := id a1
    obtain ⟨f1, f2, f3, f4, f5, f6, f7, f8, f9, f10, f11, f12, f13, f14, f15, f16, f17, f18⟩ := id hw
    simp only [Nat.zero_add] at g3 g4 g5 g6 r0 r1 r2 r3 r4 r5 r6 c7 c8 c9 c10
    have hbad : ¬ (bt_in v 100 ∧ bt_in x 3) → Rt (some (.long (-1))) M N := fun y => by
      rw [if_neg y] at h
      exact h M (fun _ _ => rfl) hI
    refine bt_go rfl hP 80 [85] P (fun _ _ _ _ _ h => h) ?_
    refine ⟨fun y => ?_, fun y => ⟨fun y2 => ?_, fun y2 => ?_⟩⟩
    · rw [bt_bi_0, bt_inl_c (k := 99) (show (99 : Int64) = lN 99 from rfl) (by omega)] at y
      exact hbad (fun c => y c.1)
    rotate_left
    · rw [bt_bi_0, bt_inl_c (k := 2) (show (2 : Int64) = lN 2 from rfl) (by omega)] at y2
      exact hbad (fun c => y2 c.2)
    · rw [bt_bi_n0, bt_inl_c (k := 99) (show (99 : Int64) = lN 99 from rfl) (by omega)] at y
      rw [bt_bi_n0, bt_inl_c (k := 2) (show (2 : Int64) = lN 2 from rfl) (by omega)] at y2
      have ok : bt_in v 100 ∧ bt_in x 3 := ⟨y, y2⟩
      rw [if_pos ok] at h
      obtain ⟨v, hv, rfl⟩ := bt_in_e y
      rw [bt_clm (by omega)] at h
      refine ⟨w, rfl, a1, ?_⟩
      by_cases c : bt_fb w < w 12 1
      · rw [if_pos c] at h ⊢
        generalize bt_fb w = k at c h
        have hn4 : ¬ nI k = -4 := fun z => by
          have := congrArg Int32.toInt z
          rw [nI_toInt (by omega)] at this
          have e4 : (-4 : Int32).toInt = -4 := by decide
          omega
        have loop : ∀ u pc L st M' N', (pc = 85 ∧ st = [] ∧ M' = M ∧ N' = N ∧ ∃ (j : Nat) (s i : Int32) (y12 y13 y14 y15 y16 : Option Value), j ≤ w 12 0 - w 12 4 ∧ u = w 12 0 - w 12 4 - j ∧ i = nI (w 12 0 - j) - 1 ∧ s.toInt = bt_sz w k j ∧ L = [some (.ref 67), some (.int (nI v)), some (.int x), some (.int (nI k)), some (.int (nI (w 12 2) - M 68 (58 + 5 * k + 2))), some (.long (lN (bt_bd w k v j))), none, some (.long (lN (10 ^ j))), none, some (.int s), some (.int (bt_wh w k v j)), some (.int i), y12, y13, y14, y15, y16]) → P pc L st M' N' := by
          refine bt_loop rfl hP 100 [85] (fun u pc L st M' N' => (pc = 85 ∧ st = [] ∧ M' = M ∧ N' = N ∧ ∃ (j : Nat) (s i : Int32) (y12 y13 y14 y15 y16 : Option Value), j ≤ w 12 0 - w 12 4 ∧ u = w 12 0 - w 12 4 - j ∧ i = nI (w 12 0 - j) - 1 ∧ s.toInt = bt_sz w k j ∧ L = [some (.ref 67), some (.int (nI v)), some (.int x), some (.int (nI k)), some (.int (nI (w 12 2) - M 68 (58 + 5 * k + 2))), some (.long (lN (bt_bd w k v j))), none, some (.long (lN (10 ^ j))), none, some (.int s), some (.int (bt_wh w k v j)), some (.int i), y12, y13, y14, y15, y16])) ?_
          rintro u pc L st M' N' ⟨rfl, rfl, hM, hN, j, s, i, y12, y13, y14, y15, y16, hj, rfl, hi, hs, rfl⟩
          have hh := h
          rw [← hM] at g5 a1 c9 r0 hh ⊢
          rw [← hN] at hh
          refine ⟨_, rfl, 88, rfl, by omega, ⟨fun z1 => ?_, fun z1 => ?_⟩⟩
          · rw [g5, bt_dlt hi f1 (by omega)] at z1
            have e : j = w 12 0 - w 12 4 := by omega
            have key := hh M' (fun _ _ => rfl) (by rw [hM]; exact hI)
            rw [← e] at key
            have hb := bt_bd_n hw k v (j := j) (by omega)
            have hp := (bt_p10 j (by omega)).2
            refine ⟨fun z2 => ?_, fun z2 => ?_⟩
            · rw [if_neg z2] at key
              exact ⟨_, _, rfl, rfl, hp.2, by omega, by omega, key⟩
            · rw [if_pos z2] at key
              exact key
          · rw [g5, bt_dlt hi f1 (by omega)] at z1
            obtain ⟨i', hi'⟩ : ∃ i', w 12 0 - j = i' + 1 := ⟨w 12 0 - j - 1, by omega⟩
            have ei : i = nI i' := by rw [hi, hi', nI_pred]
            have ej : w 12 0 - 1 - j = i' := by omega
            have m0 : M' 68 (7 * i') = nI (w 0 i') := r0 i' (by omega)
            have m9 : M' 68 (58 + 5 * k + 2) = nI (w 9 k) := c9 k c
            have sz := bt_sz_le hw k j
            have sz1 := bt_sz_le hw k (j + 1)
            have hX : (s + M' 68 (7 * i') * (nI (w 12 2) - M' 68 (58 + 5 * k + 2))).toInt = bt_sz w k (j + 1) := by
              rw [m0, m9, bu_sv hs (by omega) (f7 i') f4 (f16 k), bt_sz, ej]
              rfl
            have hb := bt_bd_n hw k v (j := j) (by omega)
            have hp := (bt_p10 j (by omega)).2.1
            have hgo := bt_gz_m (t := bt_ch w i' k) (v := v) (p := 10 ^ j) (b := bt_bd w k v j) (bt_ch_le hw i' k) (by rw [hX]; omega) (by omega) hp hb
            rw [hX] at hgo
            have hwait : (10 : Int64) * lN (bt_bd w k v j) = lN (10 * bt_bd w k v j) := lN_mul 10 _
            have hgo2 := hgo
            rw [← ej] at hgo2
            obtain ⟨s1, s2, s3, s4⟩ := bt_bd_step hw (k := k) (v := v) (j := j) (by omega) hgo2
            rw [← hwait] at s1 s2 s3 s4
            rw [ej] at s1 s2 s3 s4
            have ii : i + (-1) = nI (w 12 0 - (j + 1)) - 1 := by
              rw [bt_m1, ei, show w 12 0 - (j + 1) = i' by omega]
            have sc : lN (10 ^ j) * (10 : Int64) = lN (10 ^ (j + 1)) := by
              rw [show (10 : Int64) = lN 10 from rfl, lN_mul, Nat.pow_succ]
            refine ⟨_, rfl, 7 * i', by rw [ei]; simp only [bt_lit, pk_mul], by omega, ?_⟩
            refine ⟨w, i', k, rfl, a1, ei, by omega, rfl, c, ?_⟩
            refine ⟨fun z2 => ⟨fun z3 => ?_, fun z3 => ?_⟩, fun z2 => ⟨fun z3 => ?_, fun z3 => ?_⟩⟩
            · rw [bt_cmp_le, ← Int64.not_lt] at z2
              have w1 : bt_wh w k v (j + 1) = bt_wh w k v j := by
                rw [bt_wh, ej, if_neg (fun q => z2 (s1.mpr q))]
              exact ⟨w 12 0 - w 12 4 - (j + 1), by omega, rfl, rfl, rfl, hN, j + 1, _, _, _, _, _, _, _, by omega, rfl, ii, hX, by rw [s4 z2, w1, sc]⟩
            · exact absurd z2 z3
            · exact absurd z3 z2
            · rw [bt_cmp_le, ← Int64.not_lt, Classical.not_not] at z2
              have w1 : bt_wh w k v (j + 1) = i := by
                rw [bt_wh, ej, if_pos (s1.mp z2), ei]
              exact ⟨w 12 0 - w 12 4 - (j + 1), by omega, rfl, rfl, rfl, hN, j + 1, _, _, _, _, _, _, _, by omega, rfl, ii, hX, by rw [← s3 z2, w1, sc]⟩
        refine ⟨fun _ => ?_, fun z => absurd z hn4⟩
        refine ⟨0, w 12 2, rfl, rfl, by omega, by simpa using g3, ?_⟩
        refine ⟨_, rfl, 58 + 5 * k + 2, by simp only [bt_lit, pk_mul, nI_add], by omega, ?_⟩
        exact loop _ _ _ _ _ _ ⟨rfl, rfl, rfl, rfl, 0, 0, _, none, none, none, none, none, by omega, rfl, by rw [g1]; rfl, rfl, rfl⟩
      · rw [if_neg c] at h ⊢
        refine ⟨fun z => absurd rfl z, fun _ => ?_⟩
        exact h M (fun _ _ => rfl) hI
  · cases hf
end
section
/-! WHO HAD BEEN BEHIND WHOM: numbers -/
def bu_tz (t : Nat) : Nat := if t % 2 = 1 then 0 else if t / 2 % 2 = 1 then 1 else if t / 4 % 2 = 1 then 2 else if t / 8 % 2 = 1 then 3 else if t / 16 % 2 = 1 then 4 else if t / 32 % 2 = 1 then 5 else if t / 64 % 2 = 1 then 6 else 7
theorem bu_tz_ok : ∀ t, t < 256 → 0 < t → ((nI t ^^^ (-1)) &&& (nI t - 1) = nI (2 ^ bu_tz t - 1) ∧ bu_tz t ≤ 7 ∧ 2 ^ bu_tz t ≤ t) := by decide +kernel
theorem bu_tz_b : ∀ t, t < 256 → 0 < t → ∀ p, p < 8 → bu_tz t < p → t / 2 ^ p % 2 = (t - 1) / 2 ^ p % 2 := by decide +kernel
def sJ6_numberOfTrailingZeros_0f7a4 : bt_Sp := fun as M N K => match as with
  | [.int x] => ∃ t, x = nI t ∧ t < 256 ∧ 0 < t ∧ K (some (.int (nI (bu_tz t)))) M N
  | _ => False
theorem mJ6_numberOfTrailingZeros_0f7a4 : bt_MT bt_TJ6_numberOfTrailingZeros_0f7a4 [] [] 1 2 sJ6_numberOfTrailingZeros_0f7a4 := by
  intro as M N Rt h P hP
  unfold sJ6_numberOfTrailingZeros_0f7a4 at h
  split at h
  · obtain ⟨t, rfl, ht, h0, h⟩ := h
    obtain ⟨hX, h7, -⟩ := bu_tz_ok t ht h0
    generalize bu_tz t = c at hX h7 h
    refine bt_go rfl hP 60 [8] P (fun _ _ _ _ _ h => h) ?_
    show P 8 [some (.int ((nI t ^^^ (-1)) &&& (nI t - 1))), none] [] M N
    rw [hX]
    refine bt_go0 rfl hP 60 ?_
    rcases (show c = 0 ∨ c = 1 ∨ c = 2 ∨ c = 3 ∨ c = 4 ∨ c = 5 ∨ c = 6 ∨ c = 7 by omega) with rfl | rfl | rfl | rfl | rfl | rfl | rfl | rfl
    · exact ⟨fun z => absurd z (by decide), fun _ => h⟩
    · exact ⟨fun _ => ⟨fun _ => ⟨fun _ => ⟨fun _ => ⟨fun _ => h, fun z => absurd (by decide) z⟩, fun z => absurd (by decide) z⟩, fun z => absurd (by decide) z⟩, fun z => absurd (by decide) z⟩, fun z => absurd (by decide) z⟩
    · exact ⟨fun _ => ⟨fun _ => ⟨fun _ => ⟨fun _ => ⟨fun _ => h, fun z => absurd (by decide) z⟩, fun z => absurd (by decide) z⟩, fun z => absurd (by decide) z⟩, fun z => absurd (by decide) z⟩, fun z => absurd (by decide) z⟩
    · exact ⟨fun _ => ⟨fun _ => ⟨fun _ => ⟨fun _ => ⟨fun z => absurd z (by decide), fun _ => h⟩, fun z => absurd (by decide) z⟩, fun z => absurd (by decide) z⟩, fun z => absurd (by decide) z⟩, fun z => absurd (by decide) z⟩
    · exact ⟨fun _ => ⟨fun _ => ⟨fun _ => ⟨fun _ => ⟨fun z => absurd z (by decide), fun _ => h⟩, fun z => absurd (by decide) z⟩, fun z => absurd (by decide) z⟩, fun z => absurd (by decide) z⟩, fun z => absurd (by decide) z⟩
    · exact ⟨fun _ => ⟨fun _ => ⟨fun _ => ⟨fun z => absurd z (by decide), fun _ => ⟨fun _ => h, fun z => absurd (by decide) z⟩⟩, fun z => absurd (by decide) z⟩, fun z => absurd (by decide) z⟩, fun z => absurd (by decide) z⟩
    · exact ⟨fun _ => ⟨fun _ => ⟨fun _ => ⟨fun z => absurd z (by decide), fun _ => ⟨fun _ => h, fun z => absurd (by decide) z⟩⟩, fun z => absurd (by decide) z⟩, fun z => absurd (by decide) z⟩, fun z => absurd (by decide) z⟩
    · exact ⟨fun _ => ⟨fun _ => ⟨fun _ => ⟨fun z => absurd z (by decide), fun _ => ⟨fun z => absurd z (by decide), fun _ => h⟩⟩, fun z => absurd (by decide) z⟩, fun z => absurd (by decide) z⟩, fun z => absurd (by decide) z⟩
  · exact False.elim h
/-- all that was seen is so -/
def bu_ft (T z1 z2 : Nat → Nat) : Nat → Bool
  | 0 => true
  | n + 1 => bu_ft T z1 z2 n && (T (z1 n) == z2 n)
theorem bu_ft_no {T z1 z2 : Nat → Nat} {n : Nat} (h : bu_ft T z1 z2 n = false) : ∀ d, bu_ft T z1 z2 (n + d) = false
  | 0 => h
  | d + 1 => by
    rw [← Nat.add_assoc, bu_ft, bu_ft_no h d]
    rfl
abbrev bu_F : Type := Nat × Nat × Nat × Nat × Nat
def bu_cF (M : bt_M) (F : bu_F) : Prop := M 49 6 = nI F.1 ∧ M 49 7 = nI F.2.1 ∧ M 49 8 = nI F.2.2.1 ∧ M 49 9 = nI F.2.2.2.1 ∧ M 49 10 = nI F.2.2.2.2
def bu_bF (F : bu_F) : Prop := F.1 < 1000 ∧ F.2.1 < 256 ∧ F.2.2.1 < 256 ∧ F.2.2.2.1 < 256 ∧ F.2.2.2.2 < 256
def bu_ad (b : Bool) (s p : Nat) (F : bu_F) : bu_F := if b = true then (F.1 + 1, if F.1 = 0 then s else min F.2.1 s, F.2.2.1 &&& s, F.2.2.2.1 ||| s, F.2.2.2.2 ||| p) else F
theorem bu_sh55 : ∀ e, e < 9 → bt_sh (55 + e) = (1, 0, 6) := by decide
def bt_CX0_judge : bt_C := [(102, 0, 2, sJ9_min_7cf53)]
def sX0_judge : bt_Sp := fun as M N K => match as with
  | [.ref c, .int pv, .int sv, .ref e] => ∃ (l p s n m : Nat) (T z1 z2 : Nat → Nat) (F : bu_F), c = 49 ∧ pv = nI p ∧ p < 256 ∧ sv = nI s ∧ s < 256 ∧ e = 55 + l ∧ l < 9 ∧ M 49 5 = nI n ∧ n ≤ 6 ∧ m ≤ 6 ∧ (∀ j, j < n → M 50 j = nI (z1 j) ∧ M 51 j = nI (z2 j) ∧ z1 j < m ∧ z2 j ≤ 999) ∧ (∀ k, k < m → M (55 + l) k = nI (T k)) ∧ (∀ k, T k < 2 ^ 31) ∧ bu_cF M F ∧ bu_bF F ∧ ∀ M', (∀ x : Nat, x ≠ 49 → M' x = M x) → M' 49 5 = M 49 5 → bu_cF M' (bu_ad (bu_ft T z1 z2 n) s p F) → K none M' N
  | _ => False
set_option maxRecDepth 100000 in
theorem mX0_judge : bt_MT bt_TX0_judge bt_FX0 bt_CX0_judge 0 5 sX0_judge := by
  intro as M N Rt h P hP
  unfold sX0_judge at h
  split at h
  · obtain ⟨l, p, s, n, m, T, z1, z2, F, rfl, rfl, hp, rfl, hs, rfl, hl, h5, hn, hm, hz, hT, hTb, hF, hB, h⟩ := h
    obtain ⟨q6, q7, q8, q9, q10⟩ := id hF
    obtain ⟨b6, b7, b8, b9, b10⟩ := id hB
    have loop : ∀ v pc L st M' N', (pc = 3 ∧ st = [] ∧ M' = M ∧ N' = N ∧ ∃ j, j ≤ n ∧ v = n - j ∧ L = [some (.ref 49), some (.int (nI p)), some (.int (nI s)), some (.ref (55 + l)), some (.int (nI j))] ∧ bu_ft T z1 z2 j = true) → P pc L st M' N' := by
      refine bt_loop rfl hP 60 [3] (fun v pc L st M' N' => (pc = 3 ∧ st = [] ∧ M' = M ∧ N' = N ∧ ∃ j, j ≤ n ∧ v = n - j ∧ L = [some (.ref 49), some (.int (nI p)), some (.int (nI s)), some (.ref (55 + l)), some (.int (nI j))] ∧ bu_ft T z1 z2 j = true)) ?_
      rintro v pc L st M' N' ⟨rfl, rfl, hM, hN, j, hj, rfl, rfl, hft⟩
      subst hM
      subst hN
      refine ⟨fun y1 => ?_, fun y1 => ?_⟩
      · rw [h5, nI_leI (by omega) (by omega)] at y1
        have e : j = n := by omega
        rw [e] at hft
        rw [hft] at h
        unfold bu_ad at h
        rw [if_pos rfl] at h
        have fin : ∀ X : Int32, X = nI (if F.1 = 0 then s else min F.2.1 s) → ∀ M1, M1 = va_up M' 49 (upd (M' 49) 7 X) → ∀ M2, M2 = va_up M1 49 (upd (M1 49) 6 (M1 49 6 + 1)) → ∀ M3, M3 = va_up M2 49 (upd (M2 49) 8 (M2 49 8 &&& nI s)) → ∀ M4, M4 = va_up M3 49 (upd (M3 49) 9 (M3 49 9 ||| nI s)) → ∀ M5, M5 = va_up M4 49 (upd (M4 49) 10 (M4 49 10 ||| nI p)) → Rt none M5 N' := by
          intro X hX M1 e1 M2 e2 M3 e3 M4 e4 M5 e5
          have k1 : M1 49 = upd (M' 49) 7 X := by rw [e1, bt_up_s]
          have k2 : M2 49 = upd (M1 49) 6 (M1 49 6 + 1) := by rw [e2, bt_up_s]
          have k3 : M3 49 = upd (M2 49) 8 (M2 49 8 &&& nI s) := by rw [e3, bt_up_s]
          have k4 : M4 49 = upd (M3 49) 9 (M3 49 9 ||| nI s) := by rw [e4, bt_up_s]
          have k5 : M5 49 = upd (M4 49) 10 (M4 49 10 ||| nI p) := by rw [e5, bt_up_s]
          refine h M5 ?_ ?_ ⟨?_, ?_, ?_, ?_, ?_⟩
          · intro x hx
            rw [e5, bt_up_n hx, e4, bt_up_n hx, e3, bt_up_n hx, e2, bt_up_n hx, e1, bt_up_n hx]
          · rw [k5, pk_un (by omega), k4, pk_un (by omega), k3, pk_un (by omega), k2, pk_un (by omega), k1, pk_un (by omega)]
          · rw [k5, pk_un (by omega), k4, pk_un (by omega), k3, pk_un (by omega), k2, pk_us, k1, pk_un (by omega), q6, nI_1]
          · rw [k5, pk_un (by omega), k4, pk_un (by omega), k3, pk_un (by omega), k2, pk_un (by omega), k1, pk_us, hX]
          · rw [k5, pk_un (by omega), k4, pk_un (by omega), k3, pk_us, k2, pk_un (by omega), k1, pk_un (by omega), q8, bt_and (by omega) (by omega)]
          · rw [k5, pk_un (by omega), k4, pk_us, k3, pk_un (by omega), k2, pk_un (by omega), k1, pk_un (by omega), q9, bt_or (by omega) (by omega)]
          · rw [k5, pk_us, k4, pk_un (by omega), k3, pk_un (by omega), k2, pk_un (by omega), k1, pk_un (by omega), q10, bt_or (by omega) (by omega)]
        refine ⟨fun y2 => ?_, fun y2 => ?_⟩
        · rw [q6, bt_n0 (by omega)] at y2
          exact fin _ (by rw [if_neg y2, q7, bt_minN (by omega) (by omega)])
        · rw [q6, bt_n0 (by omega)] at y2
          exact fin _ (by rw [if_pos y2])
      · rw [h5, nI_leI (by omega) (by omega)] at y1
        obtain ⟨c1, c2, c3, c4⟩ := hz j (by omega)
        have c5 := hT _ c3
        have c6 := hTb (z1 j)
        refine ⟨_, rfl, j, rfl, by omega, ?_⟩
        refine ⟨6, bu_sh55 l hl, z1 j, c1, by omega, ?_⟩
        refine ⟨_, rfl, j, rfl, by omega, ?_⟩
        refine ⟨fun y2 => ?_, fun y2 => ?_⟩
        · rw [c5, c2, nI_eq (by omega) (by omega)] at y2
          exact ⟨n - (j + 1), by omega, rfl, rfl, rfl, rfl, j + 1, by omega, rfl, by rw [nI_1], by rw [bu_ft, hft, y2]; simp⟩
        · rw [c5, c2, nI_eq (by omega) (by omega)] at y2
          have g1 : bu_ft T z1 z2 (j + 1) = false := by
            rw [bu_ft, hft]
            simp [y2]
          have g2 := bu_ft_no g1 (n - (j + 1))
          rw [show j + 1 + (n - (j + 1)) = n by omega] at g2
          rw [g2] at h
          exact h M' (fun _ _ => rfl) rfl hF
    refine bt_go rfl hP 60 [3] P (fun _ _ _ _ _ h => h) ?_
    exact loop _ _ _ _ _ _ ⟨rfl, rfl, rfl, rfl, 0, by omega, rfl, rfl, rfl⟩
  · exact False.elim h
end
section
/-! WHO HAD BEEN BEHIND WHOM: a level down -/
theorem bu_orb : ∀ q, q < 8 → ∀ a, a < 2 ^ q → ∀ b, b < 2 → nI a ||| (nI b <<< (nI q &&& 31)) = nI (a + b * 2 ^ q) := by decide +kernel
def bt_CX0_goDown : bt_C := [(92, 1, 4, sX4_comers), (99, 1, 4, sX4_minutes)]
def sX0_goDown : bt_Sp := fun as M N K => match as with
  | [.ref c, .ref d, .int lv, .int th] => ∃ (w : bt_W) (l b sv : Nat) (ps T : Nat → Nat), c = 49 ∧ d = 2 ∧ bt_cW M 2 w ∧ lv = nI l ∧ w 12 4 + l < w 12 0 ∧ th = nI b ∧ b ≤ 1 ∧ bt_b1 ps ∧ M 52 l = nI (bt_mk ps (w 12 1)) ∧ M 53 l = nI sv ∧ sv < 2 ^ (w 12 4 + l) ∧ (∀ k, k < w 12 1 → M (55 + l) k = nI (T k)) ∧ ∀ M', (∀ x : Nat, x ≠ 52 → x ≠ 53 → x ≠ 55 + (l + 1) → M' x = M x) → (∀ j, j ≠ l + 1 → M' 52 j = M 52 j ∧ M' 53 j = M 53 j) → M' 52 (l + 1) = nI (bt_mk (fun k => ps k + bt_cm w (w 12 4 + l) (b * w 2 (w 12 4 + l)) ps k) (w 12 1)) → M' 53 (l + 1) = nI (sv + b * 2 ^ (w 12 4 + l)) → (∀ k, k < w 12 1 → M' (55 + (l + 1)) k = nI (T k + bt_mn w (w 12 4 + l) k (ps k + bt_cm w (w 12 4 + l) (b * w 2 (w 12 4 + l)) ps k))) → K none M' N
  | _ => False
set_option maxRecDepth 100000 in
theorem mX0_goDown : bt_MT bt_TX0_goDown bt_FX0 bt_CX0_goDown 0 7 sX0_goDown := by
  intro as M N Rt h P hP
  unfold sX0_goDown at h
  split at h
  · obtain ⟨w, l, b, sv, ps, T, rfl, rfl, a1, rfl, hl, rfl, hb, hps, p1, p2, hsv, p3, h⟩ := h
    obtain ⟨hw, h8, h9, h10, h11, h12, h13, h14, h15, h16, h17, r1, r2, r3, r4, r5, r6, r7, r8⟩ := id a1
    obtain ⟨f1, f2, f3, f4, f5, f6, f7, f8, f9, f10, f11, f12, f13, f14, f15, f16, f17, f18⟩ := id hw
    have hi : M 2 16 + nI l = nI (w 12 4 + l) := by rw [h16, nI_add]
    have g9 := f9 (w 12 4 + l)
    have hg : b * w 2 (w 12 4 + l) ≤ 9 := by
      calc b * w 2 (w 12 4 + l) ≤ 1 * 9 := Nat.mul_le_mul hb g9
        _ = 9 := rfl
    generalize hgg : b * w 2 (w 12 4 + l) = g at *
    have hcb := bt_cm_b1 w (w 12 4 + l) g ps
    have hsum := bt_cm_le w (w 12 4 + l) g ps hps
    have hp1 : bt_b1 (fun k => ps k + bt_cm w (w 12 4 + l) g ps k) := hsum
    have hmk : ∀ {f : Nat → Nat}, bt_b1 f → bt_mk f (w 12 1) < 2 ^ 31 := fun {f} hf => by
      have := bt_mk_lt hf (w 12 1)
      have h2 : 2 ^ (w 12 1) ≤ 2 ^ 6 := Nat.pow_le_pow_right (by omega) f2
      omega
    have hor : M 52 l ||| nI (bt_mk (bt_cm w (w 12 4 + l) g ps) (w 12 1)) = nI (bt_mk (fun k => ps k + bt_cm w (w 12 4 + l) g ps k) (w 12 1)) := by
      rw [p1, bt_or (hmk hps) (hmk hcb), bt_mk_or hps hcb hp1]
      intro k _
      have := hsum k
      have := hcb k
      have := hps k
      omega
    generalize hpp : (fun k => ps k + bt_cm w (w 12 4 + l) g ps k) = pp at *
    have hpk : ∀ k, ps k + bt_cm w (w 12 4 + l) g ps k = pp k := fun k => by rw [← hpp]
    have loop : ∀ v pc L st M' N', (pc = 70 ∧ st = [] ∧ N' = N ∧ ∃ k, k ≤ w 12 1 ∧ v = w 12 1 - k ∧ L = [some (.ref 49), some (.ref 2), some (.int (nI l)), some (.int (nI b)), some (.int (M 2 16 + nI l)), some (.int (nI (bt_mk pp (w 12 1)))), some (.int (nI k))] ∧ (∀ x : Nat, x ≠ 52 → x ≠ 53 → x ≠ 55 + (l + 1) → M' x = M x) ∧ (∀ j, j ≠ l + 1 → M' 52 j = M 52 j ∧ M' 53 j = M 53 j) ∧ M' 52 (l + 1) = nI (bt_mk pp (w 12 1)) ∧ M' 53 (l + 1) = nI (sv + b * 2 ^ (w 12 4 + l)) ∧ ∀ j, j < k → M' (55 + (l + 1)) j = nI (T j + bt_mn w (w 12 4 + l) j (pp j))) → P pc L st M' N' := by
      refine bt_loop rfl hP 60 [70] (fun v pc L st M' N' => (pc = 70 ∧ st = [] ∧ N' = N ∧ ∃ k, k ≤ w 12 1 ∧ v = w 12 1 - k ∧ L = [some (.ref 49), some (.ref 2), some (.int (nI l)), some (.int (nI b)), some (.int (M 2 16 + nI l)), some (.int (nI (bt_mk pp (w 12 1)))), some (.int (nI k))] ∧ (∀ x : Nat, x ≠ 52 → x ≠ 53 → x ≠ 55 + (l + 1) → M' x = M x) ∧ (∀ j, j ≠ l + 1 → M' 52 j = M 52 j ∧ M' 53 j = M 53 j) ∧ M' 52 (l + 1) = nI (bt_mk pp (w 12 1)) ∧ M' 53 (l + 1) = nI (sv + b * 2 ^ (w 12 4 + l)) ∧ ∀ j, j < k → M' (55 + (l + 1)) j = nI (T j + bt_mn w (w 12 4 + l) j (pp j)))) ?_
      rintro v pc L st M' N' ⟨rfl, rfl, hN, k, hk, rfl, rfl, q1, q2, q3, q4, q5⟩
      subst hN
      have e12 : M' 2 12 = nI (w 12 1) := by rw [q1 2 (by omega) (by omega) (by omega)]; exact h12
      refine ⟨fun y1 => ?_, fun y1 => ?_⟩
      · rw [e12, nI_leI (by omega) (by omega)] at y1
        refine h M' q1 q2 q3 q4 (fun k hk => ?_)
        rw [hpk]
        exact q5 k (by omega)
      · rw [e12, nI_leI (by omega) (by omega)] at y1
        have e1 : M' 3 (w 12 4 + l) = nI (w 0 (w 12 4 + l)) := by rw [q1 3 (by omega) (by omega) (by omega)]; exact r1 _ hl
        have e7 : M' 9 k = nI (w 9 k) := by rw [q1 9 (by omega) (by omega) (by omega)]; exact r7 k (by omega)
        have e14 : M' 2 14 = nI (w 12 2) := by rw [q1 2 (by omega) (by omega) (by omega)]; exact h14
        have eT : M' (55 + l) k = nI (T k) := by rw [q1 (55 + l) (by omega) (by omega) (by omega)]; exact p3 k (by omega)
        refine ⟨_, rfl, l + 1, nI_1 l, by omega, ?_⟩
        refine ⟨_, rfl, l, rfl, by omega, ?_⟩
        refine ⟨6, bu_sh55 l (by omega), k, rfl, by omega, ?_⟩
        refine ⟨w 12 4 + l, k, w 12 1, pp, w 0 (w 12 4 + l), w 9 k, w 12 2, Or.inl rfl, hi, by omega, rfl, by omega, f2, hp1, rfl, e1, e7, e14, ?_⟩
        refine ⟨6, bu_sh55 (l + 1) (by omega), k, rfl, by omega, ?_⟩
        intro M3 e3
        have e3' : M3 = va_up M' (55 + (l + 1)) (upd (M' (55 + (l + 1))) k (M' (55 + l) k + nI (w 0 (w 12 4 + l) * if pp k = 1 then w 9 k else w 12 2))) := e3
        refine ⟨w 12 1 - (k + 1), by omega, rfl, rfl, rfl, k + 1, by omega, rfl, by rw [← nI_1], ?_, ?_, ?_, ?_, ?_⟩
        · intro x z1 z2 z3
          rw [e3', bt_up_n z3]
          exact q1 x z1 z2 z3
        · intro j hj
          rw [e3', bt_up_n (by omega), bt_up_n (by omega)]
          exact q2 j hj
        · rw [e3', bt_up_n (by omega)]
          exact q3
        · rw [e3', bt_up_n (by omega)]
          exact q4
        · intro j hj
          rw [e3', bt_up_s]
          by_cases hjk : j = k
          · rw [hjk, pk_us, eT, nI_add]
            rfl
          · rw [pk_un hjk]
            exact q5 j (by omega)
    refine bt_go rfl hP 60 [70] P (fun _ _ _ _ _ h => h) ?_
    refine ⟨_, rfl, l, rfl, by omega, ?_⟩
    refine ⟨_, rfl, w 12 4 + l, hi, by omega, ?_⟩
    refine ⟨_, rfl, l, rfl, by omega, ?_⟩
    refine ⟨w, w 12 4 + l, g, ps, Or.inl rfl, a1, hi, hl, by rw [r3 _ hl, pk_mul, hgg], hg, hps, p1, ?_⟩
    refine ⟨_, rfl, l + 1, nI_1 l, by omega, ?_⟩
    intro M1 e1
    refine ⟨_, rfl, l, rfl, by omega, ?_⟩
    refine ⟨_, rfl, l + 1, nI_1 l, by omega, ?_⟩
    intro M2 e2
    have s1 : M1 53 l = nI sv := by rw [e1, bt_up_n (by omega)]; exact p2
    refine loop _ _ _ _ _ _ ⟨rfl, rfl, rfl, 0, Nat.zero_le _, rfl, by rw [hor]; rfl, ?_, ?_, ?_, ?_, fun j hj => by omega⟩
    · intro x z1 z2 z3
      rw [e2, bt_up_n z2, e1, bt_up_n z1]
    · intro j hj
      refine ⟨?_, ?_⟩
      · rw [e2, bt_up_n (by omega), e1, bt_up_s, pk_un hj]
      · rw [e2, bt_up_s, pk_un hj, e1, bt_up_n (by omega)]
    · rw [e2, bt_up_n (by omega), e1, bt_up_s, pk_us, hor]
    · rw [e2, bt_up_s, pk_us, s1, hi, bu_orb _ (by omega) _ hsv _ (by omega)]
  · exact False.elim h
end
section
/-! WHO HAD BEEN BEHIND WHOM: sets of gaps, in any order -/
theorem bu_fr_c {w w' : bt_W} (h7 : w' 7 = w 7) (h8 : w' 8 = w 8) (u : Nat) (ps : Nat → Nat) : ∀ k, bt_fr w' u ps k = bt_fr w u ps k
  | 0 => rfl
  | k + 1 => by simp only [bt_fr, bu_fr_c h7 h8 u ps k, h7, h8]
theorem bu_cm_c {w w' : bt_W} (h : ∀ f, f < 10 → w' f = w f) (h12 : ∀ k, k ≠ 4 → k ≠ 5 → w' 12 k = w 12 k) (i g : Nat) (ps : Nat → Nat) (k : Nat) : bt_cm w' i g ps k = bt_cm w i g ps k := by
  unfold bt_cm bt_lbB bt_us
  rw [bu_fr_c (h 7 (by omega)) (h 8 (by omega)), h 5 (by omega), h 6 (by omega), h 1 (by omega), h 4 (by omega), h12 3 (by omega) (by omega), h12 1 (by omega) (by omega)]
theorem bu_mn_c {w w' : bt_W} (h : ∀ f, f < 10 → w' f = w f) (h12 : ∀ k, k ≠ 4 → k ≠ 5 → w' 12 k = w 12 k) (i k p : Nat) : bt_mn w' i k p = bt_mn w i k p := by
  unfold bt_mn
  rw [h 0 (by omega), h 9 (by omega), h12 2 (by omega) (by omega)]
theorem bu_dn11 (w : bt_W) (gf : Nat → Nat) (j k : Nat) : bt_dn w gf (j + 1) 11 k = bt_dn w gf j 11 k + bt_cm w (w 12 4 + j) (gf (w 12 4 + j)) (bt_dn w gf j 11) k := by
  obtain ⟨d1, d2, d3⟩ := bt_dn_12 w gf j
  rw [← bu_cm_c d3 d2, ← d1]
  simp [bt_dn, bt_dv, d1]
theorem bu_dn10 (w : bt_W) (gf : Nat → Nat) (j k : Nat) : bt_dn w gf (j + 1) 10 k = bt_dn w gf j 10 k + bt_mn w (w 12 4 + j) k (bt_dn w gf j 11 k + bt_cm w (w 12 4 + j) (gf (w 12 4 + j)) (bt_dn w gf j 11) k) := by
  obtain ⟨d1, d2, d3⟩ := bt_dn_12 w gf j
  rw [← bu_cm_c d3 d2, ← bu_mn_c d3 d2, ← d1]
  simp [bt_dn, bt_dv, d1]
theorem bu_dn_c {w : bt_W} {gf gf' : Nat → Nat} : ∀ j, (∀ i, i < j → gf (w 12 4 + i) = gf' (w 12 4 + i)) → bt_dn w gf j = bt_dn w gf' j
  | 0, _ => rfl
  | j + 1, h => by
    rw [bt_dn, bt_dn, bu_dn_c j (fun i hi => h i (by omega)), h j (by omega)]
/-- the bits of a turn, the other way round -/
def bu_rv (n t : Nat) : Nat := bt_mk (fun l => t / 2 ^ (n - 1 - l) % 2) n
theorem bu_m2 {f : Nat → Nat} : bt_b1 (fun l => f l % 2) := fun k => by
  have := Nat.mod_lt (f k) (show 0 < 2 by omega)
  show f k % 2 ≤ 1
  omega
theorem bu_rv_lt (n t : Nat) : bu_rv n t < 2 ^ n := bt_mk_lt bu_m2 n
theorem bu_rv_b {n t l : Nat} (h : l < n) : bu_rv n t / 2 ^ l % 2 = t / 2 ^ (n - 1 - l) % 2 := by
  unfold bu_rv
  rw [bt_mk_bit bu_m2, if_pos h]
theorem bu_mkb (r : Nat) : ∀ n, bt_mk (fun l => r / 2 ^ l % 2) n = r % 2 ^ n
  | 0 => by rw [bt_mk, Nat.pow_zero, Nat.mod_one]
  | n + 1 => by rw [bt_mk, bu_mkb r n, Nat.pow_succ, Nat.mod_mul, Nat.mul_comm]
theorem bu_rv_p : ∀ n, n < 9 → List.Perm ((List.range (2 ^ n)).map (bu_rv n)) (List.range (2 ^ n)) := by decide +kernel
def bu_gf (w : bt_W) (s i : Nat) : Nat := s / 2 ^ (i - w 12 4) % 2 * w 2 i
theorem bu_gf_s (w : bt_W) (s j : Nat) : bu_gf w s (w 12 4 + j) = s / 2 ^ j % 2 * w 2 (w 12 4 + j) := by
  unfold bu_gf
  rw [Nat.add_sub_cancel_left]
/-- a level holds what a set of gaps gives -/
def bu_lv (M : bt_M) (w : bt_W) (r l : Nat) : Prop := M 52 l = nI (bt_mk (bt_dn w (bu_gf w r) l 11) (w 12 1)) ∧ M 53 l = nI (bt_mk (fun j => r / 2 ^ j % 2) l * 2 ^ w 12 4) ∧ ∀ k, k < w 12 1 → M (55 + l) k = nI (bt_dn w (bu_gf w r) l 10 k)
theorem bu_lv_c {M : bt_M} {w : bt_W} {r r' l : Nat} (h : bu_lv M w r l) (hb : ∀ j, j < l → r' / 2 ^ j % 2 = r / 2 ^ j % 2) : bu_lv M w r' l := by
  have e1 : bt_dn w (bu_gf w r') l = bt_dn w (bu_gf w r) l := bu_dn_c l (fun i hi => by rw [bu_gf_s, bu_gf_s, hb i hi])
  have e2 : bt_mk (fun j => r' / 2 ^ j % 2) l = bt_mk (fun j => r / 2 ^ j % 2) l := bt_mk_c hb
  unfold bu_lv
  rw [e1, e2]
  exact h
theorem bu_lv_k {M M' : bt_M} {w : bt_W} {r l : Nat} (h : bu_lv M w r l) (h1 : M' 52 l = M 52 l ∧ M' 53 l = M 53 l) (h2 : M' (55 + l) = M (55 + l)) : bu_lv M' w r l := by
  unfold bu_lv
  rw [h1.1, h1.2, h2]
  exact h
def bu_we (w : bt_W) (s : Nat) : bt_W := bt_dn w (bu_gf w s) (w 12 0 - w 12 4)
def bu_op (w : bt_W) (z1 z2 : Nat → Nat) (n : Nat) (F : bu_F) (s : Nat) : bu_F := bu_ad (bu_ft (bu_we w s 10) z1 z2 n) (s * 2 ^ w 12 4) (bt_mk (bu_we w s 11) (w 12 1)) F
def bu_f0 (w : bt_W) : bu_F := (0, 0, 2 ^ w 12 0 - 2 ^ w 12 4, 0, 0)
def bu_fo (w : bt_W) (z1 z2 : Nat → Nat) (n : Nat) (l : List Nat) : bu_F := l.foldl (bu_op w z1 z2 n) (bu_f0 w)
theorem bu_fo_1 (w : bt_W) (z1 z2 : Nat → Nat) (n : Nat) (l : List Nat) (s : Nat) : bu_fo w z1 z2 n (l ++ [s]) = bu_op w z1 z2 n (bu_fo w z1 z2 n l) s := by
  unfold bu_fo
  rw [List.foldl_append]
  rfl
theorem bu_ad_comm (b b' : Bool) (s p s' p' : Nat) (F : bu_F) : bu_ad b s p (bu_ad b' s' p' F) = bu_ad b' s' p' (bu_ad b s p F) := by
  obtain ⟨c, m, a, n, g⟩ := F
  cases b <;> cases b' <;> simp only [bu_ad, if_true, if_false, Bool.false_eq_true]
  refine Prod.ext rfl (Prod.ext ?_ (Prod.ext ?_ (Prod.ext ?_ ?_)))
  · show (if c + 1 = 0 then s else min (if c = 0 then s' else min m s') s) = (if c + 1 = 0 then s' else min (if c = 0 then s else min m s) s')
    have c1 : ¬ c + 1 = 0 := by omega
    simp only [c1, if_false]
    by_cases hc : c = 0
    · simp only [hc, if_true]
      omega
    · simp only [hc, if_false]
      omega
  · show a &&& s' &&& s = a &&& s &&& s'
    rw [Nat.and_assoc, Nat.and_comm s' s, ← Nat.and_assoc]
  · show (n ||| s') ||| s = (n ||| s) ||| s'
    rw [Nat.or_assoc, Nat.or_comm s' s, ← Nat.or_assoc]
  · show (g ||| p') ||| p = (g ||| p) ||| p'
    rw [Nat.or_assoc, Nat.or_comm p' p, ← Nat.or_assoc]
theorem bu_fo_p {w : bt_W} {z1 z2 : Nat → Nat} {n : Nat} {l l' : List Nat} (h : List.Perm l l') : bu_fo w z1 z2 n l = bu_fo w z1 z2 n l' := by
  unfold bu_fo
  exact h.foldl_eq' (fun x _ y _ z => bu_ad_comm _ _ _ _ _ _ _) _
def bu_bm (m : Nat) (F : bu_F) : Prop := F.1 ≤ m ∧ F.2.1 < 256 ∧ F.2.2.1 < 256 ∧ F.2.2.2.1 < 256 ∧ F.2.2.2.2 < 256
theorem bu_ad_b {b : Bool} {s p m : Nat} {F : bu_F} (h : bu_bm m F) (hs : s < 256) (hp : p < 256) : bu_bm (m + 1) (bu_ad b s p F) := by
  obtain ⟨c, m', a, n, g⟩ := F
  obtain ⟨h1, h2, h3, h4, h5⟩ := h
  dsimp only at h1 h2 h3 h4 h5
  cases b
  · exact ⟨by show c ≤ m + 1; omega, h2, h3, h4, h5⟩
  · refine ⟨?_, ?_, ?_, ?_, ?_⟩
    · show c + 1 ≤ m + 1
      omega
    · show (if c = 0 then s else min m' s) < 256
      split <;> omega
    · show a &&& s < 256
      exact Nat.lt_of_le_of_lt Nat.and_le_left h3
    · show n ||| s < 256
      exact Nat.or_lt_two_pow (n := 8) h4 hs
    · show g ||| p < 256
      exact Nat.or_lt_two_pow (n := 8) h5 hp
theorem bu_2p {a : Nat} (h : a ≤ 8) : 2 ^ a ≤ 256 := Nat.pow_le_pow_right (n := 2) (by omega) h
theorem bu_s_lt {w : bt_W} (hw : bt_wf w) {s : Nat} (hs : s < 2 ^ (w 12 0 - w 12 4)) : s * 2 ^ w 12 4 < 256 := by
  have e : 2 ^ (w 12 0 - w 12 4) * 2 ^ w 12 4 = 2 ^ w 12 0 := by
    rw [← Nat.pow_add]
    congr 1
    have := hw.2.2.1
    omega
  have h1 := bu_2p hw.1
  have h2 : s * 2 ^ w 12 4 < 2 ^ (w 12 0 - w 12 4) * 2 ^ w 12 4 := Nat.mul_lt_mul_of_pos_right hs (Nat.two_pow_pos _)
  omega
theorem bu_we_wf {w : bt_W} (hw : bt_wf w) (s : Nat) : bt_wf (bu_we w s) := bt_dn_wf _ hw _ (by have := hw.2.2.1; omega)
theorem bu_we_p {w : bt_W} (hw : bt_wf w) (s : Nat) : bt_mk (bu_we w s 11) (w 12 1) < 256 := by
  have h1 := bt_mk_lt (bt_wf11 (bu_we_wf hw s)) (w 12 1)
  have h2 := bu_2p (a := w 12 1) (by have := hw.2.1; omega)
  omega
theorem bu_fo_b {w : bt_W} (hw : bt_wf w) (z1 z2 : Nat → Nat) (n : Nat) : ∀ (l : List Nat) (F : bu_F) (m : Nat), (∀ s ∈ l, s < 2 ^ (w 12 0 - w 12 4)) → bu_bm m F → bu_bm (m + l.length) (l.foldl (bu_op w z1 z2 n) F)
  | [], F, m, _, h => h
  | s :: l, F, m, hl, h => by
    have h1 : bu_bm (m + 1) (bu_op w z1 z2 n F s) := bu_ad_b h (bu_s_lt hw (hl s List.mem_cons_self)) (bu_we_p hw s)
    have h2 := bu_fo_b hw z1 z2 n l _ _ (fun s hs => hl s (List.mem_cons_of_mem _ hs)) h1
    rw [List.length_cons, show m + (l.length + 1) = m + 1 + l.length by omega]
    exact h2
theorem bu_f0_b {w : bt_W} (hw : bt_wf w) : bu_bm 0 (bu_f0 w) := by
  have h1 := bu_2p hw.1
  have h2 := Nat.two_pow_pos (w 12 4)
  refine ⟨Nat.le_refl _, ?_, ?_, ?_, ?_⟩
  · show 0 < 256
    omega
  · show 2 ^ w 12 0 - 2 ^ w 12 4 < 256
    omega
  · show 0 < 256
    omega
  · show 0 < 256
    omega
theorem bu_fo_B {w : bt_W} (hw : bt_wf w) (z1 z2 : Nat → Nat) (n : Nat) (l : List Nat) (hl : ∀ s ∈ l, s < 2 ^ (w 12 0 - w 12 4)) (h : l.length ≤ 256) : bu_bF (bu_fo w z1 z2 n l) := by
  obtain ⟨h1, h2⟩ := bu_fo_b hw z1 z2 n l _ _ hl (bu_f0_b hw)
  exact ⟨by unfold bu_fo; omega, h2⟩
end
section
/-! WHO HAD BEEN BEHIND WHOM: the class tries all sets -/
theorem bu_sl1 : ∀ n, n < 9 → (1 : Int32) <<< (nI n &&& 31) = nI (2 ^ n) := by decide +kernel
theorem bu_rbit {t p : Nat} (ht : t < 2 ^ 31) (hp : p < 32) : nI t >>> (nI p &&& 31) &&& 1 = nI (t / 2 ^ p % 2) := by
  rw [bt_shr ht hp, bt_and1 (Nat.lt_of_le_of_lt (Nat.div_le_self _ _) ht)]
theorem bu_sub2 {n l : Nat} (h : l < n) : nI n - 1 - nI l = nI (n - 1 - l) := by
  rw [show (1 : Int32) = nI 1 from rfl, pk_sub (by omega), pk_sub (by omega)]
def bt_CX0_tryAllSets : bt_C := [(39, 1, 1, sX4_stretchesLeft), (59, 0, 5, sArrcopyI), (71, 0, 1, sJ6_numberOfTrailingZeros_0f7a4), (77, 0, 2, sX5_bit), (81, 1, 4, sX0_goDown), (85, 1, 4, sX0_judge)]
def sX0_tryAllSets : bt_Sp := fun as M N K => match as with
  | [.ref c, .ref d] => ∃ (w : bt_W) (n : Nat) (z1 z2 : Nat → Nat), c = 49 ∧ d = 2 ∧ bt_cW M 2 w ∧ M 49 5 = nI n ∧ n ≤ 6 ∧ (∀ j, j < n → M 50 j = nI (z1 j) ∧ M 51 j = nI (z2 j) ∧ z1 j < w 12 1 ∧ z2 j ≤ 999) ∧ ∀ M', (∀ x : Nat, (x < 49 ∨ x = 50 ∨ x = 51 ∨ 63 < x) → M' x = M x) → M' 49 5 = M 49 5 → bu_cF M' (bu_fo w z1 z2 n (List.range (2 ^ (w 12 0 - w 12 4)))) → K none M' N
  | _ => False
def bu_tw (M M' : bt_M) : Prop := (∀ x : Nat, (x < 49 ∨ x = 50 ∨ x = 51 ∨ 63 < x) → M' x = M x) ∧ M' 49 5 = M 49 5
set_option maxHeartbeats 1000000 in
set_option maxRecDepth 100000 in
theorem mX0_tryAllSets : bt_MT bt_TX0_tryAllSets bt_FX0 bt_CX0_tryAllSets 0 6 sX0_tryAllSets := by
  intro as M N Rt h P hP
  unfold sX0_tryAllSets at h
  split at h
  · obtain ⟨w, n, z1, z2, rfl, rfl, a1, h5, hn, hz, h⟩ := h
    obtain ⟨hw, h8, h9, h10, h11, h12, h13, h14, h15, h16, h17, r1, r2, r3, r4, r5, r6, r7, r8⟩ := id a1
    obtain ⟨f1, f2, f3, f4, f5, f6, f7, f8, f9, f10, f11, f12, f13, f14, f15, f16, f17, f18⟩ := id hw
    have hlf : w 12 4 + (w 12 0 - w 12 4) = w 12 0 := by omega
    have hB := fun l hl hll => bu_fo_B hw z1 z2 n l hl hll
    have hwe : ∀ s, bu_we w s = bt_dn w (bu_gf w s) (w 12 0 - w 12 4) := fun s => rfl
    have hT : ∀ s k, bu_we w s 10 k < 2 ^ 31 := fun s k => by
      have q := bu_we_wf hw s
      have q1 := q.2.2.2.2.2.2.2.2.2.2.2.2.2.2.2.2.1 k
      have q2 := q.2.2.1
      have q3 := q.1
      omega
    have hsl := fun s => bu_s_lt hw (s := s)
    have hpl := bu_we_p hw
    have hop : ∀ F s, bu_op w z1 z2 n F s = bu_ad (bu_ft (bu_we w s 10) z1 z2 n) (s * 2 ^ w 12 4) (bt_mk (bu_we w s 11) (w 12 1)) F := fun F s => rfl
    generalize hl : w 12 0 - w 12 4 = lf at *
    have hlf8 : lf ≤ 8 := by omega
    have h256 := bu_2p hlf8
    have kcW : ∀ M', bu_tw M M' → bt_cW M' 2 w := fun M' t => bt_cW_kept a1 (fun x _ _ => t.1 x (by omega))
    have loop : ∀ v pc L st M' N', (st = [] ∧ N' = N ∧ ∃ (t : Nat) (y4 : Option Value), bu_tw M M' ∧ bu_cF M' (bu_fo w z1 z2 n ((List.range t).map (bu_rv lf))) ∧ ((pc = 74 ∧ t ≤ 2 ^ lf ∧ v = (2 ^ lf - t) * 20 + 19 ∧ (∃ y5, L = [some (.ref 49), some (.ref 2), some (.int (nI lf)), some (.int (nI t)), y4, y5]) ∧ ∀ l, l ≤ (if t = 0 then 0 else lf) → bu_lv M' w (bu_rv lf (t - 1)) l) ∨ (pc = 103 ∧ t < 2 ^ lf ∧ ∃ l x4, l ≤ lf ∧ v = (2 ^ lf - t) * 20 + (lf - l) ∧ L = [some (.ref 49), some (.ref 2), some (.int (nI lf)), some (.int (nI t)), some (.int x4), some (.int (nI l))] ∧ ∀ l', l' ≤ l → bu_lv M' w (bu_rv lf t) l'))) → P pc L st M' N' := by
      refine bt_loop rfl hP 100 [74, 103] (fun v pc L st M' N' => (st = [] ∧ N' = N ∧ ∃ (t : Nat) (y4 : Option Value), bu_tw M M' ∧ bu_cF M' (bu_fo w z1 z2 n ((List.range t).map (bu_rv lf))) ∧ ((pc = 74 ∧ t ≤ 2 ^ lf ∧ v = (2 ^ lf - t) * 20 + 19 ∧ (∃ y5, L = [some (.ref 49), some (.ref 2), some (.int (nI lf)), some (.int (nI t)), y4, y5]) ∧ ∀ l, l ≤ (if t = 0 then 0 else lf) → bu_lv M' w (bu_rv lf (t - 1)) l) ∨ (pc = 103 ∧ t < 2 ^ lf ∧ ∃ l x4, l ≤ lf ∧ v = (2 ^ lf - t) * 20 + (lf - l) ∧ L = [some (.ref 49), some (.ref 2), some (.int (nI lf)), some (.int (nI t)), some (.int x4), some (.int (nI l))] ∧ ∀ l', l' ≤ l → bu_lv M' w (bu_rv lf t) l')))) ?_
      rintro v pc L st M' N' ⟨rfl, hN, t, y4, tw, cF, ⟨rfl, ht, rfl, ⟨y5, rfl⟩, lv⟩ | ⟨rfl, ht, l, x4, hl2, rfl, rfl, lv⟩⟩
      · subst hN
        refine ⟨fun y1 => ?_, fun y1 => ?_⟩
        · rw [bu_sl1 lf (by omega), nI_leI (by omega) (by omega)] at y1
          have e : t = 2 ^ lf := by omega
          rw [e, bu_fo_p (bu_rv_p lf (by omega))] at cF
          exact h M' tw.1 tw.2 cF
        · rw [bu_sl1 lf (by omega), nI_leI (by omega) (by omega)] at y1
          refine ⟨fun y2 => ?_, fun y2 => ?_⟩
          · rw [bt_n0 (by omega)] at y2
            obtain ⟨z5, z6, z7⟩ := bu_tz_ok t (by omega) (by omega)
            have z8 : bu_tz t < lf := (Nat.pow_lt_pow_iff_right (a := 2) (by omega)).mp (by omega)
            refine ⟨t, rfl, by omega, by omega, ?_⟩
            refine ⟨(2 ^ lf - t) * 20 + (lf - (lf - 1 - bu_tz t)), by omega, rfl, rfl, t, none, tw, cF, Or.inr ⟨rfl, by omega, lf - 1 - bu_tz t, _, by omega, rfl, by rw [bu_sub2 z8], fun l' hl' => ?_⟩⟩
            have lv1 := lv l' (by rw [if_neg y2]; omega)
            refine bu_lv_c lv1 (fun j hj => ?_)
            rw [bu_rv_b (by omega), bu_rv_b (by omega)]
            exact bu_tz_b t (by omega) (by omega) _ (by omega) (by omega)
          · rw [bt_n0 (by omega)] at y2
            have lv0 := lv 0 (by omega)
            rw [y2] at lv0
            refine ⟨(2 ^ lf - t) * 20 + (lf - 0), by omega, rfl, rfl, t, none, tw, cF, Or.inr ⟨rfl, by omega, 0, _, by omega, rfl, rfl, fun l' hl' => ?_⟩⟩
            have e0 : l' = 0 := by omega
            rw [e0, y2]
            exact lv0
      · subst hN
        have hcW := kcW M' tw
        refine ⟨fun y1 => ?_, fun y1 => ?_⟩
        · rw [nI_leI (by omega) (by omega)] at y1
          have e : l = lf := by omega
          obtain ⟨v1, v2, v3⟩ := lv lf (by omega)
          have hr := bu_rv_lt lf t
          rw [bu_mkb, Nat.mod_eq_of_lt hr] at v2
          have e5 : M' 49 5 = nI n := by rw [tw.2]; exact h5
          have hB1 := hB ((List.range t).map (bu_rv lf)) (fun s hs => by
            obtain ⟨q, _, rfl⟩ := List.mem_map.mp hs
            exact bu_rv_lt lf q) (by rw [List.length_map, List.length_range]; omega)
          refine ⟨_, rfl, lf, rfl, by omega, ?_⟩
          refine ⟨_, rfl, lf, rfl, by omega, ?_⟩
          refine ⟨_, rfl, lf, rfl, by omega, ?_⟩
          refine ⟨lf, bt_mk (bu_we w (bu_rv lf t) 11) (w 12 1), bu_rv lf t * 2 ^ w 12 4, n, w 12 1, bu_we w (bu_rv lf t) 10, z1, z2, bu_fo w z1 z2 n ((List.range t).map (bu_rv lf)), rfl, ?_, hpl _, v2, hsl _ hr, rfl, by omega, e5, hn, f2, ?_, ?_, hT _, cF, hB1, fun M2 s1 s2 s3 => ?_⟩
          · rw [hwe]
            exact v1
          · intro j hj
            rw [tw.1 50 (by omega), tw.1 51 (by omega)]
            exact hz j hj
          · rw [hwe]
            exact v3
          · have cF2 : bu_cF M2 (bu_fo w z1 z2 n ((List.range (t + 1)).map (bu_rv lf))) := by
              rw [List.range_succ, List.map_append, List.map_cons, List.map_nil, bu_fo_1, hop]
              exact s3
            refine ⟨(2 ^ lf - (t + 1)) * 20 + 19, by omega, rfl, rfl, t + 1, _, ⟨fun x hx => ?_, ?_⟩, cF2, Or.inl ⟨rfl, by omega, rfl, ⟨_, by rw [nI_1]⟩, fun l' hl' => ?_⟩⟩
            · rw [s1 x (by omega)]
              exact tw.1 x hx
            · rw [s2]
              exact tw.2
            · rw [if_neg (by omega)] at hl'
              refine bu_lv_k (lv l' (by omega)) ⟨?_, ?_⟩ ?_
              · rw [s1 52 (by omega)]
              · rw [s1 53 (by omega)]
              · rw [s1 (55 + l') (by omega)]
        · rw [nI_leI (by omega) (by omega)] at y1
          have hlt : l < lf := by omega
          obtain ⟨v1, v2, v3⟩ := lv l (by omega)
          have hb : nI t >>> ((nI lf - 1 - nI l) &&& 31) &&& 1 = nI (bu_rv lf t / 2 ^ l % 2) := by
            rw [bu_sub2 hlt, bu_rbit (by omega) (by omega), bu_rv_b hlt]
          have hb1 : bu_rv lf t / 2 ^ l % 2 ≤ 1 := by
            have := Nat.mod_lt (bu_rv lf t / 2 ^ l) (show 0 < 2 by omega)
            omega
          have hps : bt_b1 (bt_dn w (bu_gf w (bu_rv lf t)) l 11) := bt_wf11 (bt_dn_wf _ hw l (by omega))
          have hsv : bt_mk (fun j => bu_rv lf t / 2 ^ j % 2) l * 2 ^ w 12 4 < 2 ^ (w 12 4 + l) := by
            rw [Nat.pow_add, Nat.mul_comm (2 ^ w 12 4)]
            exact Nat.mul_lt_mul_of_pos_right (bt_mk_lt bu_m2 l) (Nat.two_pow_pos _)
          refine ⟨w, l, bu_rv lf t / 2 ^ l % 2, bt_mk (fun j => bu_rv lf t / 2 ^ j % 2) l * 2 ^ w 12 4, bt_dn w (bu_gf w (bu_rv lf t)) l 11, bt_dn w (bu_gf w (bu_rv lf t)) l 10, rfl, rfl, hcW, rfl, by omega, hb, hb1, hps, v1, v2, hsv, v3, fun M2 s1 s2 s3 s4 s5 => ?_⟩
          refine ⟨(2 ^ lf - t) * 20 + (lf - (l + 1)), by omega, rfl, rfl, t, none, ⟨fun x hx => ?_, ?_⟩, ?_, Or.inr ⟨rfl, by omega, l + 1, _, by omega, rfl, by rw [nI_1], fun l' hl' => ?_⟩⟩
          · rw [s1 x (by omega) (by omega) (by omega)]
            exact tw.1 x hx
          · rw [s1 49 (by omega) (by omega) (by omega)]
            exact tw.2
          · unfold bu_cF
            rw [s1 49 (by omega) (by omega) (by omega)]
            exact cF
          · by_cases he : l' = l + 1
            · rw [he]
              refine ⟨?_, ?_, fun k hk => ?_⟩
              · rw [s3]
                congr 1
                refine bt_mk_c (fun k _ => ?_)
                rw [bu_dn11, bu_gf_s]
              · rw [s4, bt_mk, Nat.add_mul, Nat.mul_assoc, ← Nat.pow_add, Nat.add_comm l]
              · rw [s5 k hk, bu_dn10, bu_gf_s]
            · exact bu_lv_k (lv l' (by omega)) (s2 l' he) (s1 (55 + l') (by omega) (by omega) (by omega))
    refine bt_go rfl hP 100 [74] P (fun _ _ _ _ _ h => h) ?_
    intro M1 e1 M2 e2
    have c2 : bt_cW M2 2 w := bt_cW_kept a1 (fun x _ _ => by rw [e2, bt_up_n (by omega), e1, bt_up_n (by omega)])
    refine ⟨w, Or.inl rfl, c2, ?_⟩
    intro M3 e3 M4 e4 M5 e5
    refine ⟨_, rfl, 0, rfl, by omega, fun M6 e6 => ?_⟩
    refine ⟨_, rfl, 0, rfl, by omega, fun M7 e7 => ?_⟩
    refine ⟨_, rfl, 0, rfl, by omega, ?_⟩
    refine ⟨_, _, 6, rfl, rfl, rfl, rfl, rfl, by omega, by omega, fun M8 e8 => ?_⟩
    have e8' : M8 = va_up M7 55 (va_cpy (M7 10) (M7 55) 0 0 6) := e8
    have k1 : M1 49 = upd (M 49) 6 0 := by rw [e1, bt_up_s]
    have k2 : M2 49 = upd (M1 49) 7 0 := by rw [e2, bt_up_s]
    have k3 : M3 49 = upd (M2 49) 8 (nI (2 ^ w 12 0 - 2 ^ w 12 4)) := by rw [e3, bt_up_s]
    have k4 : M4 49 = upd (M3 49) 9 0 := by rw [e4, bt_up_s]
    have k5 : M5 49 = upd (M4 49) 10 0 := by rw [e5, bt_up_s]
    have k8 : M8 49 = M5 49 := by rw [e8', bt_up_n (by omega), e7, bt_up_n (by omega), e6, bt_up_n (by omega)]
    have o5 : ∀ x : Nat, x ≠ 49 → M5 x = M x := fun x hx => by rw [e5, bt_up_n hx, e4, bt_up_n hx, e3, bt_up_n hx, e2, bt_up_n hx, e1, bt_up_n hx]
    have o8 : ∀ x : Nat, x ≠ 49 → x ≠ 52 → x ≠ 53 → x ≠ 55 → M8 x = M x := fun x x1 x2 x3 x4 => by rw [e8', bt_up_n x4, e7, bt_up_n x3, e6, bt_up_n x2, o5 x x1]
    have tw : bu_tw M M8 := by
      refine ⟨fun x hx => o8 x (by omega) (by omega) (by omega) (by omega), ?_⟩
      rw [k8, k5, pk_un (by omega), k4, pk_un (by omega), k3, pk_un (by omega), k2, pk_un (by omega), k1, pk_un (by omega)]
    have hleft : M8 2 8 - M8 2 16 = nI lf := by
      rw [o8 2 (by omega) (by omega) (by omega) (by omega), h8, h16, pk_sub f3, hl]
    refine loop _ _ _ _ _ _ ⟨rfl, rfl, 0, none, tw, ⟨?_, ?_, ?_, ?_, ?_⟩, Or.inl ⟨rfl, Nat.zero_le _, rfl, ⟨none, by rw [hleft]; rfl⟩, fun l hl0 => ?_⟩⟩
    · rw [k8, k5, pk_un (by omega), k4, pk_un (by omega), k3, pk_un (by omega), k2, pk_un (by omega), k1, pk_us]
      rfl
    · rw [k8, k5, pk_un (by omega), k4, pk_un (by omega), k3, pk_un (by omega), k2, pk_us]
      rfl
    · rw [k8, k5, pk_un (by omega), k4, pk_un (by omega), k3, pk_us]
      rfl
    · rw [k8, k5, pk_un (by omega), k4, pk_us]
      rfl
    · rw [k8, k5, pk_us]
      rfl
    · rw [if_pos rfl] at hl0
      have e0 : l = 0 := by omega
      rw [e0]
      refine ⟨?_, ?_, fun k hk => ?_⟩
      · rw [e8', bt_up_n (by omega), e7, bt_up_n (by omega), e6, bt_up_s, pk_us, o5 2 (by omega)]
        exact h13
      · rw [e8', bt_up_n (by omega), e7, bt_up_s, pk_us, bt_mk, Nat.zero_mul]
        rfl
      · rw [e8']
        show va_up M7 55 (va_cpy (M7 10) (M7 55) 0 0 6) 55 k = _
        rw [bt_up_s, bt_cpy0 (by omega), e7, bt_up_n (by omega), e6, bt_up_n (by omega), o5 10 (by omega)]
        exact r8 k hk
  · exact False.elim h
end
section
/-! WHO HAD BEEN BEHIND WHOM: the class's calls -/
def bu_FF (w : bt_W) (z1 z2 : Nat → Nat) (n : Nat) : bu_F := bu_fo w z1 z2 n (List.range (2 ^ (w 12 0 - w 12 4)))
/-- the same, told by the first stretch that is left -/
def bu_sc (k : Nat) (F : bu_F) : bu_F := (F.1, F.2.1 * 2 ^ k, F.2.2.1 * 2 ^ k, F.2.2.2.1 * 2 ^ k, F.2.2.2.2)
def bu_ou (w : bt_W) (z1 z2 : Nat → Nat) (n : Nat) (F : bu_F) (s : Nat) : bu_F := bu_ad (bu_ft (bu_we w s 10) z1 z2 n) s (bt_mk (bu_we w s 11) (w 12 1)) F
def bu_fu (w : bt_W) (z1 z2 : Nat → Nat) (n : Nat) : Nat → bu_F
  | 0 => (0, 0, 2 ^ (w 12 0 - w 12 4) - 1, 0, 0)
  | s + 1 => bu_ou w z1 z2 n (bu_fu w z1 z2 n s) s
theorem bu_sc_ad (b : Bool) (s p k : Nat) (F : bu_F) : bu_sc k (bu_ad b s p F) = bu_ad b (s * 2 ^ k) p (bu_sc k F) := by
  obtain ⟨c, m, a, n, g⟩ := F
  cases b
  · rfl
  · refine Prod.ext rfl (Prod.ext ?_ (Prod.ext ?_ (Prod.ext ?_ rfl)))
    · show (if c = 0 then s else min m s) * 2 ^ k = if c = 0 then s * 2 ^ k else min (m * 2 ^ k) (s * 2 ^ k)
      by_cases hc : c = 0
      · rw [if_pos hc, if_pos hc]
      · rw [if_neg hc, if_neg hc, Nat.mul_min_mul_right]
    · show (a &&& s) * 2 ^ k = a * 2 ^ k &&& s * 2 ^ k
      rw [← Nat.shiftLeft_eq, ← Nat.shiftLeft_eq, ← Nat.shiftLeft_eq, Nat.shiftLeft_and_distrib]
    · show (n ||| s) * 2 ^ k = n * 2 ^ k ||| s * 2 ^ k
      rw [← Nat.shiftLeft_eq, ← Nat.shiftLeft_eq, ← Nat.shiftLeft_eq, Nat.shiftLeft_or_distrib]
theorem bu_fu_fo {w : bt_W} (hw : bt_wf w) (z1 z2 : Nat → Nat) (n : Nat) : ∀ s, bu_fo w z1 z2 n (List.range s) = bu_sc (w 12 4) (bu_fu w z1 z2 n s)
  | 0 => by
    have e : 2 ^ (w 12 0 - w 12 4) * 2 ^ w 12 4 = 2 ^ w 12 0 := by
      rw [← Nat.pow_add]
      congr 1
      have := hw.2.2.1
      omega
    refine Prod.ext rfl (Prod.ext ?_ (Prod.ext ?_ (Prod.ext ?_ rfl)))
    · show 0 = 0 * 2 ^ w 12 4
      rw [Nat.zero_mul]
    · show 2 ^ w 12 0 - 2 ^ w 12 4 = (2 ^ (w 12 0 - w 12 4) - 1) * 2 ^ w 12 4
      rw [Nat.sub_mul, e, Nat.one_mul]
    · show 0 = 0 * 2 ^ w 12 4
      rw [Nat.zero_mul]
  | s + 1 => by
    rw [List.range_succ, bu_fo_1, bu_fu_fo hw z1 z2 n s, bu_fu, bu_ou, bu_sc_ad]
    rfl
theorem bu_fu_b {w : bt_W} (hw : bt_wf w) (z1 z2 : Nat → Nat) (n : Nat) : ∀ s, s ≤ 2 ^ (w 12 0 - w 12 4) → (bu_fu w z1 z2 n s).1 ≤ s ∧ ((bu_fu w z1 z2 n s).1 ≠ 0 → (bu_fu w z1 z2 n s).2.1 < s) ∧ (bu_fu w z1 z2 n s).2.2.1 < 2 ^ (w 12 0 - w 12 4) ∧ (bu_fu w z1 z2 n s).2.2.2.1 < 2 ^ (w 12 0 - w 12 4) ∧ (bu_fu w z1 z2 n s).2.2.2.2 < 2 ^ w 12 1
  | 0, _ => by
    have h1 := Nat.two_pow_pos (w 12 0 - w 12 4)
    have h2 := Nat.two_pow_pos (w 12 1)
    refine ⟨Nat.le_refl _, fun z => absurd rfl z, ?_, ?_, ?_⟩
    · show 2 ^ (w 12 0 - w 12 4) - 1 < _
      omega
    · exact h1
    · exact h2
  | s + 1, hs => by
    obtain ⟨i1, i2, i3, i4, i5⟩ := bu_fu_b hw z1 z2 n s (by omega)
    have hp := bt_mk_lt (bt_wf11 (bu_we_wf hw s)) (w 12 1)
    rw [bu_fu, bu_ou]
    generalize bu_fu w z1 z2 n s = F at *
    obtain ⟨c, m, a, q, g⟩ := F
    dsimp only at i1 i2 i3 i4 i5
    generalize bu_ft (bu_we w s 10) z1 z2 n = b
    cases b
    · exact ⟨by show c ≤ s + 1; omega, fun z => by have := i2 z; show m < s + 1; omega, i3, i4, i5⟩
    · refine ⟨?_, fun _ => ?_, ?_, ?_, ?_⟩
      · show c + 1 ≤ s + 1
        omega
      · show (if c = 0 then s else min m s) < s + 1
        split <;> omega
      · show a &&& s < _
        exact Nat.lt_of_le_of_lt Nat.and_le_left i3
      · show q ||| s < _
        exact Nat.or_lt_two_pow i4 (by omega)
      · show g ||| _ < _
        exact Nat.or_lt_two_pow i5 hp
theorem bu_nots : ∀ n, n < 9 → ∀ a, a < 9 → a ≤ n → ∀ x, x < 2 ^ (n - a) → nI (2 ^ n - 2 ^ a) &&& (nI (x * 2 ^ a) ^^^ (-1)) = nI (2 ^ n - 2 ^ a - x * 2 ^ a) := by decide +kernel
def f_fits : bt_fn := fun t S => match t, S with
  | [.int x], (w, im, u, z, q) => some (.int (if bt_in x 4 then (if x = 0 then nI (bu_FF w (z 1) (z 2) (u 5)).1 else if (bu_FF w (z 1) (z 2) (u 5)).1 = 0 then -4 else if x = 1 then nI (bu_FF w (z 1) (z 2) (u 5)).2.1 else if x = 2 then nI (bu_FF w (z 1) (z 2) (u 5)).2.2.1 else nI (2 ^ w 12 0 - 2 ^ w 12 4 - (bu_FF w (z 1) (z 2) (u 5)).2.2.2.1)) else -1), (w, im, u, z, q))
  | _, _ => none
def f_could : bt_fn := fun t S => match t, S with
  | [], (w, im, u, z, q) => some (.int (nI (bu_FF w (z 1) (z 2) (u 5)).2.2.2.2), (w, im, u, z, q))
  | _, _ => none
def bt_CX5_fits : bt_C := [(57, 0, 3, sX5_within), (237, 1, 2, sX0_tryAllSets), (249, 1, 1, sX4_stretchesLeft)]
def sX5_fits : bt_Sp := bt_spC f_fits
set_option maxRecDepth 100000 in
theorem mX5_fits : bt_MT bt_TX5_fits bt_FX5 bt_CX5_fits 1 2 sX5_fits := by
  intro as M N Rt h P hP
  obtain ⟨t, S, r, S', rfl, hI, hf, h⟩ := bt_spC_e h
  obtain ⟨w, im, u, z, q⟩ := S
  unfold f_fits at hf
  split at hf
  · next x _ _ _ _ _ e =>
    cases e
    obtain ⟨rfl, rfl⟩ := bt_some hf
    obtain ⟨a1, a2, a3, a4, a5, a6, a7, a8, a9, a10, a11, a12⟩ := id hI
    obtain ⟨b0, b1, b2, b3, b4, b5, b6, b7, b8, b9, b10⟩ := id a2
    have hw := a1.1
    have f1 := hw.1
    have f3 := hw.2.2.1
    refine bt_go0 rfl hP 80 ?_
    refine ⟨fun y => ?_, fun y => ?_⟩
    · rw [bt_bi_n0, bt_in_c (k := 3) (show (3 : Int32) = nI 3 from rfl) (by omega)] at y
      rw [if_pos y] at h
      refine ⟨w, u 5, z 1, z 2, rfl, rfl, a1, a11, b6, fun j hj => ⟨(a12 j hj).1, (a12 j hj).2, (b8 j hj).1, (b8 j hj).2⟩, fun M1 s1 s2 s3 => ?_⟩
      have key := h M1 N (fun x hx => s1 x (by omega)) (bt_cI_same hI (fun x hx => s1 x (by omega)) s2)
      obtain ⟨q6, q7, q8, q9, q10⟩ := (show bu_cF M1 (bu_FF w (z 1) (z 2) (u 5)) from s3)
      have hB := bu_fu_b hw (z 1) (z 2) (u 5) _ (Nat.le_refl _)
      have h256 := bu_2p (a := w 12 0 - w 12 4) (by omega)
      have hFF : bu_FF w (z 1) (z 2) (u 5) = bu_sc (w 12 4) (bu_fu w (z 1) (z 2) (u 5) (2 ^ (w 12 0 - w 12 4))) := bu_fu_fo hw _ _ _ _
      have hc1 : (bu_FF w (z 1) (z 2) (u 5)).1 ≤ 256 := by
        rw [hFF]
        show (bu_fu w (z 1) (z 2) (u 5) (2 ^ (w 12 0 - w 12 4))).1 ≤ 256
        omega
      refine ⟨fun y2 => ⟨fun y3 => ?_, fun y3 => ?_⟩, fun y2 => ?_⟩
      · rw [q6, bt_n0 (by omega)] at y3
        rw [if_neg y2, if_neg y3] at key
        refine ⟨fun y4 => ⟨fun y5 => ?_, fun y5 => ?_⟩, fun y4 => ?_⟩
        · rw [if_neg y4, if_neg y5] at key
          refine ⟨w, Or.inl rfl, bt_cW_kept a1 (fun x _ _ => s1 x (by omega)), ?_⟩
          have e : nI (2 ^ w 12 0 - 2 ^ w 12 4) &&& (M1 49 9 ^^^ (-1)) = nI (2 ^ w 12 0 - 2 ^ w 12 4 - (bu_FF w (z 1) (z 2) (u 5)).2.2.2.1) := by
            rw [q9, hFF]
            exact bu_nots _ (by omega) _ (by omega) f3 _ hB.2.2.2.1
          rw [← e] at key
          exact key
        · rw [if_neg y4, if_pos y5] at key
          rw [← q8] at key
          exact key
        · rw [if_pos y4] at key
          rw [← q7] at key
          exact key
      · rw [q6, bt_n0 (by omega)] at y3
        rw [if_neg y2, if_pos y3] at key
        exact key
      · rw [if_pos y2] at key
        rw [← q6] at key
        exact key
    · rw [bt_bi_0, bt_in_c (k := 3) (show (3 : Int32) = nI 3 from rfl) (by omega)] at y
      rw [if_neg y] at h
      exact h M N (fun _ _ => rfl) hI
  · cases hf
def bt_CX5_could : bt_C := [(237, 1, 2, sX0_tryAllSets)]
def sX5_could : bt_Sp := bt_spC f_could
theorem mX5_could : bt_MT bt_TX5_could bt_FX5 bt_CX5_could 1 1 sX5_could := by
  intro as M N Rt h P hP
  obtain ⟨t, S, r, S', rfl, hI, hf, h⟩ := bt_spC_e h
  obtain ⟨w, im, u, z, q⟩ := S
  unfold f_could at hf
  split at hf
  · next _ _ _ _ _ e =>
    cases e
    obtain ⟨rfl, rfl⟩ := bt_some hf
    obtain ⟨a1, a2, a3, a4, a5, a6, a7, a8, a9, a10, a11, a12⟩ := id hI
    obtain ⟨b0, b1, b2, b3, b4, b5, b6, b7, b8, b9, b10⟩ := id a2
    refine bt_go0 rfl hP 80 ?_
    refine ⟨w, u 5, z 1, z 2, rfl, rfl, a1, a11, b6, fun j hj => ⟨(a12 j hj).1, (a12 j hj).2, (b8 j hj).1, (b8 j hj).2⟩, fun M1 s1 s2 s3 => ?_⟩
    have key := h M1 N (fun x hx => s1 x (by omega)) (bt_cI_same hI (fun x hx => s1 x (by omega)) s2)
    obtain ⟨q6, q7, q8, q9, q10⟩ := (show bu_cF M1 (bu_FF w (z 1) (z 2) (u 5)) from s3)
    rw [← q10] at key
    exact key
  · cases hf
end
section
/-! WHO HAD BEEN BEHIND WHOM: the model's trials -/
def bu_wr (w : bt_W) (s k : Nat) : Nat → Int32
  | 0 => -4
  | j + 1 => if k < w 12 1 ∧ bt_cm w (w 12 4 + j) (bu_gf w s (w 12 4 + j)) (bt_dn w (bu_gf w s) j 11) k = 1 then nI (w 12 4 + j) else bu_wr w s k j
theorem bu_gf_9 {w : bt_W} (hw : bt_wf w) (s i : Nat) : bu_gf w s i ≤ 9 := by
  unfold bu_gf
  have h1 := Nat.mod_lt (s / 2 ^ (i - w 12 4)) (show 0 < 2 by omega)
  calc s / 2 ^ (i - w 12 4) % 2 * w 2 i ≤ 1 * 9 := Nat.mul_le_mul (by omega) (hw.2.2.2.2.2.2.2.2.1 i)
    _ = 9 := rfl
def bt_CX6_triesBy : bt_C := [(199, 1, 3, sX6_copies), (187, 1, 2, sX6_areLeft), (196, 1, 2, sX6_ownGap), (190, 1, 3, sX6_driveOn)]
def sX6_triesBy : bt_Sp := fun as M N K => match as with
  | [.ref c, .int s, .int k] => ∃ w s' k', c = 67 ∧ bt_mW M 0 w ∧ s = nI s' ∧ s' < 256 ∧ k = nI k' ∧ k' < 6 ∧ ∀ M', bt_mfr 360 M M' → bt_mW M' 360 (bu_we w s') → K (some (.int (bu_wr w s' k' (w 12 0 - w 12 4)))) M' N
  | _ => False
set_option maxRecDepth 100000 in
theorem mX6_triesBy : bt_MT bt_TX6_triesBy bt_FX6 bt_CX6_triesBy 1 7 sX6_triesBy := by
  intro as M N Rt h P hP
  unfold sX6_triesBy at h
  split at h
  · obtain ⟨w, s, k, rfl, a1, rfl, hs, rfl, hk, h⟩ := h
    obtain ⟨hw, g1, g2, g3, g4, g5, g6, r0, r1, r2, r3, r4, r5, r6, c7, c8, c9, c10, c11⟩ := id a1
    obtain ⟨f1, f2, f3, f4, f5, f6, f7, f8, f9, f10, f11, f12, f13, f14, f15, f16, f17, f18⟩ := id hw
    simp only [Nat.zero_add] at g5
    have loop : ∀ v pc L st M' N', (pc = 11 ∧ st = [] ∧ N' = N ∧ ∃ j y4 y5 y6, j ≤ w 12 0 - w 12 4 ∧ v = w 12 0 - w 12 4 - j ∧ L = [some (.ref 67), some (.int (nI s)), some (.int (nI k)), some (.int (bu_wr w s k j)), y4, y5, y6] ∧ bt_mfr 360 M M' ∧ bt_mW M' 360 (bt_dn w (bu_gf w s) j)) → P pc L st M' N' := by
      refine bt_loop rfl hP 80 [11] (fun v pc L st M' N' => (pc = 11 ∧ st = [] ∧ N' = N ∧ ∃ j y4 y5 y6, j ≤ w 12 0 - w 12 4 ∧ v = w 12 0 - w 12 4 - j ∧ L = [some (.ref 67), some (.int (nI s)), some (.int (nI k)), some (.int (bu_wr w s k j)), y4, y5, y6] ∧ bt_mfr 360 M M' ∧ bt_mW M' 360 (bt_dn w (bu_gf w s) j))) ?_
      rintro v pc L st M' N' ⟨rfl, rfl, hN, j, y4, y5, y6, hj, rfl, rfl, t1, p1⟩
      subst hN
      obtain ⟨d1, d2, d3⟩ := bt_dn_12 w (bu_gf w s) j
      obtain ⟨e0, e1, e2, e3, e4, e5, e6, s0, s1, s2, s3, s4, s5, s6, s7, s8, s9, s10, s11⟩ := id p1
      rw [d2 0 (by omega) (by omega)] at e1
      rw [d1] at e5
      rw [d2 0 (by omega) (by omega), d3 2 (by omega)] at s2
      have e88 : M' 68 88 = nI (w 12 4) := by rw [t1.2 88 (by omega)]; exact g5
      refine ⟨360, w 12 4 + j, w 12 0, rfl, rfl, by omega, e5, by omega, e1, f1, ?_⟩
      by_cases hl : w 12 4 + j < w 12 0
      · rw [if_pos hl]
        refine ⟨fun z => absurd z (by decide), fun _ => ?_⟩
        refine ⟨_, rfl, 360 + 88, rfl, by omega, ?_⟩
        refine ⟨_, rfl, 88, rfl, by omega, ?_⟩
        have hsub : M' 68 (360 + 88) - M' 68 88 = nI j := by
          rw [e5, e88, pk_sub (by omega), Nat.add_sub_cancel_left]
        have hbit : nI s >>> ((M' 68 (360 + 88) - M' 68 88) &&& 31) &&& 1 = nI (s / 2 ^ j % 2) := by
          rw [hsub, bu_rbit (by omega) (by omega)]
        have hm2 := Nat.mod_lt (s / 2 ^ j) (show 0 < 2 by omega)
        have hlt : (bt_dn w (bu_gf w s) j) 12 4 < (bt_dn w (bu_gf w s) j) 12 0 := by
          rw [d1, d2 0 (by omega) (by omega)]
          exact hl
        have eb := bt_bitN (bt_cm_b1 (bt_dn w (bu_gf w s) j) (bt_dn w (bu_gf w s) j 12 4) (bu_gf w s (w 12 4 + j)) (bt_dn w (bu_gf w s) j 11)) (n := bt_dn w (bu_gf w s) j 12 1) (k := k) (by rw [d2 1 (by omega) (by omega)]; omega) (by omega)
        have ec : nI (if k < bt_dn w (bu_gf w s) j 12 1 then bt_cm (bt_dn w (bu_gf w s) j) (bt_dn w (bu_gf w s) j 12 4) (bu_gf w s (w 12 4 + j)) (bt_dn w (bu_gf w s) j 11) k else 0) = 1 ↔ (k < w 12 1 ∧ bt_cm w (w 12 4 + j) (bu_gf w s (w 12 4 + j)) (bt_dn w (bu_gf w s) j 11) k = 1) := by
          rw [d2 1 (by omega) (by omega), d1, bu_cm_c d3 d2]
          have b1 := bt_cm_b1 w (w 12 4 + j) (bu_gf w s (w 12 4 + j)) (bt_dn w (bu_gf w s) j 11) k
          by_cases c : k < w 12 1
          · rw [if_pos c, bt_n1 (by omega)]
            exact ⟨fun z => ⟨c, z⟩, fun z => z.2⟩
          · rw [if_neg c]
            exact ⟨fun z => absurd z (by decide), fun z => absurd z.1 c⟩
        refine ⟨fun z1 => ?_, fun z1 => ?_⟩
        · rw [hbit, bt_n1 (by omega)] at z1
          have hg : (0 : Int32) = nI (bu_gf w s (w 12 4 + j)) := by
            rw [bu_gf_s, show s / 2 ^ j % 2 = 0 by omega, Nat.zero_mul]
            rfl
          refine ⟨fun _ => ?_, fun z => absurd rfl z⟩
          refine ⟨360, bu_gf w s (w 12 4 + j), _, rfl, rfl, by omega, hg, bu_gf_9 hw _ _, p1, hlt, fun M2 q1 q2 => ?_⟩
          refine ⟨fun z2 => ?_, fun z2 => ?_⟩
          · rw [eb, ec] at z2
            have ea : bu_wr w s k (j + 1) = bu_wr w s k j := by rw [bu_wr, if_neg z2]
            exact ⟨w 12 0 - w 12 4 - (j + 1), by omega, rfl, rfl, rfl, j + 1, _, _, _, by omega, rfl, by rw [ea], bt_mfr_tr t1 q2, q1⟩
          · rw [eb, ec] at z2
            have ea : bu_wr w s k (j + 1) = nI (w 12 4 + j) := by rw [bu_wr, if_pos z2]
            exact ⟨w 12 0 - w 12 4 - (j + 1), by omega, rfl, rfl, rfl, j + 1, _, _, _, by omega, rfl, by rw [ea, ← e5], bt_mfr_tr t1 q2, q1⟩
        · rw [hbit, bt_n1 (by omega)] at z1
          have hg : nI (w 2 (w 12 4 + j)) = nI (bu_gf w s (w 12 4 + j)) := by
            rw [bu_gf_s, z1, Nat.one_mul]
          refine ⟨fun z => absurd z (by decide), fun _ => ?_⟩
          refine ⟨360, w 12 4 + j, w 2 (w 12 4 + j), rfl, rfl, by omega, e5, by omega, s2 _ hl, ?_⟩
          refine ⟨360, bu_gf w s (w 12 4 + j), _, rfl, rfl, by omega, hg, bu_gf_9 hw _ _, p1, hlt, fun M2 q1 q2 => ?_⟩
          refine ⟨fun z2 => ?_, fun z2 => ?_⟩
          · rw [eb, ec] at z2
            have ea : bu_wr w s k (j + 1) = bu_wr w s k j := by rw [bu_wr, if_neg z2]
            exact ⟨w 12 0 - w 12 4 - (j + 1), by omega, rfl, rfl, rfl, j + 1, _, _, _, by omega, rfl, by rw [ea], bt_mfr_tr t1 q2, q1⟩
          · rw [eb, ec] at z2
            have ea : bu_wr w s k (j + 1) = nI (w 12 4 + j) := by rw [bu_wr, if_pos z2]
            exact ⟨w 12 0 - w 12 4 - (j + 1), by omega, rfl, rfl, rfl, j + 1, _, _, _, by omega, rfl, by rw [ea, ← e5], bt_mfr_tr t1 q2, q1⟩
      · rw [if_neg hl]
        have e : j = w 12 0 - w 12 4 := by omega
        rw [e] at p1 ⊢
        refine ⟨fun _ => h M' t1 p1, fun z => absurd rfl z⟩
    refine bt_go rfl hP 60 [11] P (fun _ _ _ _ _ h => h) ?_
    refine ⟨0, 360, rfl, rfl, by omega, rfl, by omega, by omega, fun M3 p2 p3 => ?_⟩
    exact loop _ _ _ _ _ _ ⟨rfl, rfl, rfl, 0, none, none, none, by omega, rfl, rfl, p2, bt_mW_copy a1 p2.1 p3⟩
  · exact False.elim h
def bt_CX6_isAsSeen : bt_C := [(217, 1, 3, sX6_triesBy)]
def sX6_isAsSeen : bt_Sp := fun as M N K => match as with
  | [.ref c, .int s] => ∃ (w : bt_W) (s' n : Nat) (z1 z2 : Nat → Nat), c = 67 ∧ bt_mW M 0 w ∧ s = nI s' ∧ s' < 256 ∧ M 67 21 = nI n ∧ n ≤ 6 ∧ (∀ j, j < n → M 74 (2 * j) = nI (z1 j) ∧ M 74 (2 * j + 1) = nI (z2 j) ∧ z1 j < w 12 1 ∧ z2 j ≤ 999) ∧ ∀ M', bt_mfr 360 M M' → bt_mW M' 360 (bu_we w s') → K (some (.int (if bu_ft (bu_we w s' 10) z1 z2 n = true then 1 else 0))) M' N
  | _ => False
set_option maxRecDepth 100000 in
theorem mX6_isAsSeen : bt_MT bt_TX6_isAsSeen bt_FX6 bt_CX6_isAsSeen 2 4 sX6_isAsSeen := by
  intro as M N Rt h P hP
  unfold sX6_isAsSeen at h
  split at h
  · obtain ⟨w, s, n, z1, z2, rfl, a1, rfl, hs, h5, hn, hz, h⟩ := h
    have hw := a1.1
    have f2 := hw.2.1
    have hT : ∀ k, bu_we w s 10 k < 2 ^ 31 := fun k => by
      have q := bu_we_wf hw s
      have q1 := q.2.2.2.2.2.2.2.2.2.2.2.2.2.2.2.2.1 k
      have q2 := q.2.2.1
      have q3 := q.1
      omega
    have loop : ∀ v pc L st M' N', (pc = 11 ∧ st = [] ∧ N' = N ∧ bt_mfr 360 M M' ∧ bt_mW M' 360 (bu_we w s) ∧ ∃ j, j ≤ n ∧ v = n - j ∧ L = [some (.ref 67), some (.int (nI s)), some (.int (if bu_ft (bu_we w s 10) z1 z2 j = true then 1 else 0)), some (.int (nI j))]) → P pc L st M' N' := by
      refine bt_loop rfl hP 80 [11] (fun v pc L st M' N' => (pc = 11 ∧ st = [] ∧ N' = N ∧ bt_mfr 360 M M' ∧ bt_mW M' 360 (bu_we w s) ∧ ∃ j, j ≤ n ∧ v = n - j ∧ L = [some (.ref 67), some (.int (nI s)), some (.int (if bu_ft (bu_we w s 10) z1 z2 j = true then 1 else 0)), some (.int (nI j))])) ?_
      rintro v pc L st M' N' ⟨rfl, rfl, hN, t1, p1, j, hj, rfl, rfl⟩
      subst hN
      have e21 : M' 67 21 = nI n := by rw [t1.1 67 (by omega)]; exact h5
      refine ⟨fun y1 => ?_, fun y1 => ?_⟩
      · rw [e21, nI_leI (by omega) (by omega)] at y1
        have e : j = n := by omega
        have key := h M' t1 p1
        rw [e]
        refine ⟨?_, key⟩
        split
        · exact Or.inr rfl
        · exact Or.inl rfl
      · rw [e21, nI_leI (by omega) (by omega)] at y1
        obtain ⟨c1, c2, c3, c4⟩ := hz j (by omega)
        rw [← t1.1 74 (by omega)] at c1 c2
        have c5 : M' 68 (360 + 58 + 5 * z1 j + 3) = nI (bu_we w s 10 (z1 j)) := bt_mW_time p1 (by
          have := (bt_dn_12 w (bu_gf w s) (w 12 0 - w 12 4)).2.1 1 (by omega) (by omega)
          unfold bu_we
          rw [this]
          exact c3)
        by_cases hf : bu_ft (bu_we w s 10) z1 z2 j = true
        · rw [if_pos hf]
          refine ⟨fun z => absurd z (by decide), fun _ => ?_⟩
          refine ⟨_, rfl, 2 * j, by simp only [bt_lit, pk_mul], by omega, ?_⟩
          refine ⟨_, rfl, 360 + 58 + 5 * z1 j + 3, by rw [c1]; simp only [bt_lit, pk_mul, nI_add], by omega, ?_⟩
          refine ⟨_, rfl, 2 * j + 1, by simp only [bt_lit, pk_mul, nI_add], by omega, ?_⟩
          have c6 := hT (z1 j)
          refine ⟨fun y2 => ?_, fun y2 => ?_⟩
          · rw [c5, c2, nI_eq (by omega) (by omega)] at y2
            have g1 : ¬ bu_ft (bu_we w s 10) z1 z2 (j + 1) = true := by
              rw [bu_ft, hf]
              simp [y2]
            exact ⟨n - (j + 1), by omega, rfl, rfl, rfl, t1, p1, j + 1, by omega, rfl, by rw [if_neg g1, nI_1]⟩
          · rw [c5, c2, nI_eq (by omega) (by omega)] at y2
            have g1 : bu_ft (bu_we w s 10) z1 z2 (j + 1) = true := by
              rw [bu_ft, hf]
              simp [y2]
            exact ⟨n - (j + 1), by omega, rfl, rfl, rfl, t1, p1, j + 1, by omega, rfl, by rw [if_pos g1, nI_1]⟩
        · rw [if_neg hf]
          refine ⟨fun _ => ?_, fun z => absurd rfl z⟩
          have g1 : ¬ bu_ft (bu_we w s 10) z1 z2 (j + 1) = true := by
            rw [bu_ft]
            simp [hf]
          exact ⟨n - (j + 1), by omega, rfl, rfl, rfl, t1, p1, j + 1, by omega, rfl, by rw [if_neg g1, nI_1]⟩
    refine bt_go rfl hP 60 [11] P (fun _ _ _ _ _ h => h) ?_
    refine ⟨w, s, 0, rfl, a1, rfl, hs, rfl, by omega, fun M1 q1 q2 => ?_⟩
    exact loop _ _ _ _ _ _ ⟨rfl, rfl, rfl, q1, q2, 0, by omega, rfl, rfl⟩
  · exact False.elim h
end
section
/-! WHO HAD BEEN BEHIND WHOM: the model's calls -/
def bt_CX6_fits : bt_C := [(46, 0, 3, sX6_in), (214, 1, 1, sX6_leftMany), (258, 1, 2, sX6_isAsSeen)]
def sX6_fits : bt_Sp := bt_spM f_fits
set_option maxRecDepth 100000 in
theorem mX6_fits : bt_MT bt_TX6_fits bt_FX6 bt_CX6_fits 1 8 sX6_fits := by
  intro as M N Rt h P hP
  obtain ⟨t, S, r, S', rfl, hI, hf, h⟩ := bt_spM_e h
  obtain ⟨w, im, u, z, q⟩ := S
  unfold f_fits at hf
  split at hf
  · next x _ _ _ _ _ e =>
    cases e
    obtain ⟨rfl, rfl⟩ := bt_some hf
    obtain ⟨a1, a2, a3, a4, a5, a6, a7, a8, a9, a10, a11, a12, a13, a14, a15⟩ := id hI
    obtain ⟨b0, b1, b2, b3, b4, b5, b6, b7, b8, b9, b10⟩ := id a2
    obtain ⟨hw, g1, g2, g3, g4, g5, g6, r0, r1, r2, r3, r4, r5, r6, c7, c8, c9, c10, c11⟩ := id a1
    have f1 := hw.1
    have f2 := hw.2.1
    have f3 := hw.2.2.1
    simp only [Nat.zero_add] at g5
    refine bt_go rfl hP 80 [39] P (fun _ _ _ _ _ h => h) ?_
    refine ⟨fun y => ?_, fun y => ?_⟩
    · rw [bt_bi_n0, bt_inl_c (k := 3) (show (3 : Int64) = lN 3 from rfl) (by omega)] at y
      rw [if_pos y] at h
      have hFF : bu_FF w (z 1) (z 2) (u 5) = bu_sc (w 12 4) (bu_fu w (z 1) (z 2) (u 5) (2 ^ (w 12 0 - w 12 4))) := bu_fu_fo hw _ _ _ _
      rw [hFF] at h
      have hB := bu_fu_b hw (z 1) (z 2) (u 5)
      have hsub : w 12 0 - w 12 4 ≤ 8 := by omega
      have e2 : 2 ^ w 12 0 - 2 ^ w 12 4 = (2 ^ (w 12 0 - w 12 4) - 1) * 2 ^ w 12 4 := by
        rw [Nat.sub_mul, ← Nat.pow_add, Nat.one_mul, show w 12 0 - w 12 4 + w 12 4 = w 12 0 by omega]
      have e3 : 2 ^ (w 12 0 - w 12 4) * 2 ^ w 12 4 = 2 ^ w 12 0 := by
        rw [← Nat.pow_add, show w 12 0 - w 12 4 + w 12 4 = w 12 0 by omega]
      have h256 := bu_2p hsub
      have h256b := bu_2p f1
      have hpos := Nat.two_pow_pos (w 12 0 - w 12 4)
      generalize hlf : w 12 0 - w 12 4 = lf at *
      have loop : ∀ v pc L st M' N', (pc = 39 ∧ st = [] ∧ N' = N ∧ bt_tm M M' ∧ ∃ s, s ≤ 2 ^ lf ∧ v = 2 ^ lf - s ∧ L = [some (.ref 67), some (.int x), some (.int (nI (bu_fu w (z 1) (z 2) (u 5) s).1)), some (.int (if (bu_fu w (z 1) (z 2) (u 5) s).1 = 0 then -4 else nI (bu_fu w (z 1) (z 2) (u 5) s).2.1)), some (.int (nI (2 ^ lf - 1))), some (.int (nI (bu_fu w (z 1) (z 2) (u 5) s).2.2.1)), some (.int (nI (bu_fu w (z 1) (z 2) (u 5) s).2.2.2.1)), some (.int (nI s))]) → P pc L st M' N' := by
        refine bt_loop rfl hP 80 [39] (fun v pc L st M' N' => (pc = 39 ∧ st = [] ∧ N' = N ∧ bt_tm M M' ∧ ∃ s, s ≤ 2 ^ lf ∧ v = 2 ^ lf - s ∧ L = [some (.ref 67), some (.int x), some (.int (nI (bu_fu w (z 1) (z 2) (u 5) s).1)), some (.int (if (bu_fu w (z 1) (z 2) (u 5) s).1 = 0 then -4 else nI (bu_fu w (z 1) (z 2) (u 5) s).2.1)), some (.int (nI (2 ^ lf - 1))), some (.int (nI (bu_fu w (z 1) (z 2) (u 5) s).2.2.1)), some (.int (nI (bu_fu w (z 1) (z 2) (u 5) s).2.2.2.1)), some (.int (nI s))])) ?_
        rintro v pc L st M' N' ⟨rfl, rfl, hN, t1, s, hs, rfl, rfl⟩
        subst hN
        obtain ⟨i1, i2, i3, i4, i5⟩ := hB s hs
        refine ⟨fun y1 => ?_, fun y1 => ?_⟩
        · rw [nI_ltI (by omega) (by omega)] at y1
          have e : s = 2 ^ lf := by omega
          have key0 := h M' (bt_tm_fx t1) (bt_tm_I hI t1)
          rw [← e] at key0
          have e88 : M' 68 88 = nI (w 12 4) := by rw [t1.2 88 (by omega)]; exact g5
          generalize bu_fu w (z 1) (z 2) (u 5) s = F at *
          obtain ⟨c, m, a, n, g⟩ := F
          dsimp only at i1 i2 i3 i4 i5 ⊢
          have key : Rt (some (.int (if x = 0 then nI c else if c = 0 then -4 else if x = 1 then nI (m * 2 ^ w 12 4) else if x = 2 then nI (a * 2 ^ w 12 4) else nI (2 ^ w 12 0 - 2 ^ w 12 4 - n * 2 ^ w 12 4)))) M' N' := key0
          have hsm : ∀ y, y < 2 ^ lf → nI y <<< (M' 68 88 &&& 31) = nI (y * 2 ^ w 12 4) := fun y hy => by
            rw [e88, bt_shlN (by omega)]
            have : y * 2 ^ w 12 4 < 2 ^ lf * 2 ^ w 12 4 := Nat.mul_lt_mul_of_pos_right hy (Nat.two_pow_pos _)
            omega
          refine ⟨fun y2 => ⟨fun y3 => absurd y2 y3, fun y3 => ?_⟩, fun y2 => ⟨fun y3 => ?_, fun y3 => ⟨fun y4 => ?_, fun y4 => absurd y4 y2⟩⟩⟩
          · rw [if_pos y2] at key
            exact key
          · rw [bt_n0 (by omega)] at y3
            rw [if_neg y2, if_neg y3] at key
            rw [if_neg y3]
            refine ⟨fun y4 => ⟨fun y5 => ?_, fun y5 => ?_⟩, fun y4 => ?_⟩
            · rw [if_neg y4, if_neg y5, e2, ← Nat.sub_mul, ← hsm _ (by omega), ← bt_notN lf (by omega) n i4] at key
              exact ⟨_, rfl, 88, rfl, by omega, key⟩
            · rw [if_neg y4, if_pos y5, ← hsm _ i3] at key
              exact ⟨_, rfl, 88, rfl, by omega, key⟩
            · have := i2 y3
              rw [if_pos y4, ← hsm _ (by omega)] at key
              exact ⟨_, rfl, 88, rfl, by omega, key⟩
          · rw [bt_n0 (by omega)] at y3
            rw [if_neg y2, if_pos y3] at key
            exact key
        · rw [nI_ltI (by omega) (by omega)] at y1
          have e21 : M' 67 21 = nI (u 5) := by rw [t1.1 67 (by omega)]; exact a12
          refine ⟨w, s, u 5, z 1, z 2, rfl, bt_tm_live t1 a1, rfl, by omega, e21, b6, fun j hj => ?_, fun M2 q1 q2 => ?_⟩
          · rw [t1.1 74 (by omega)]
            exact ⟨(a13 j hj).1, (a13 j hj).2, (b8 j hj).1, (b8 j hj).2⟩
          · have t2 := bt_tm_fr t1 (by omega) q1
            have hu : bu_fu w (z 1) (z 2) (u 5) (s + 1) = bu_ad (bu_ft (bu_we w s 10) (z 1) (z 2) (u 5)) s (bt_mk (bu_we w s 11) (w 12 1)) (bu_fu w (z 1) (z 2) (u 5) s) := rfl
            generalize bu_fu w (z 1) (z 2) (u 5) s = F at *
            by_cases hft : bu_ft (bu_we w s 10) (z 1) (z 2) (u 5) = true
            · rw [hft] at hu ⊢
              unfold bu_ad at hu
              rw [if_pos rfl] at hu ⊢
              refine ⟨fun y3 => absurd y3 (by decide), fun _ => ⟨fun y3 => ?_, fun y3 => ?_⟩⟩
              · rw [bt_n0 (by omega)] at y3
                refine ⟨2 ^ lf - (s + 1), by omega, rfl, rfl, rfl, t2, s + 1, by omega, rfl, ?_⟩
                have := i2 y3
                rw [hu]
                dsimp only
                rw [if_neg y3, if_neg (show ¬ F.1 + 1 = 0 by omega), if_neg y3, Nat.min_eq_left (by omega), nI_1, nI_1, bt_and (by omega) (by omega), bt_or (by omega) (by omega)]
              · rw [bt_n0 (by omega)] at y3
                refine ⟨2 ^ lf - (s + 1), by omega, rfl, rfl, rfl, t2, s + 1, by omega, rfl, ?_⟩
                rw [hu]
                dsimp only
                rw [if_neg (show ¬ F.1 + 1 = 0 by omega), if_pos y3, nI_1, nI_1, bt_and (by omega) (by omega), bt_or (by omega) (by omega)]
            · rw [if_neg hft]
              unfold bu_ad at hu
              rw [if_neg hft] at hu
              refine ⟨fun _ => ?_, fun y3 => absurd rfl y3⟩
              exact ⟨2 ^ lf - (s + 1), by omega, rfl, rfl, rfl, t2, s + 1, by omega, rfl, by rw [hu, nI_1]⟩
      refine ⟨w, rfl, a1, ?_⟩
      rw [hlf]
      exact loop _ _ _ _ _ _ ⟨rfl, rfl, rfl, bt_tm_rf, 0, Nat.zero_le _, rfl, by
        rw [bt_ev lf (by omega)]
        show _ = ([some (.ref 67), some (.int x), some (.int (nI 0)), some (.int (-4)), some (.int (nI (2 ^ lf - 1))), some (.int (nI (2 ^ (w 12 0 - w 12 4) - 1))), some (.int (nI 0)), some (.int (nI 0))] : bt_L)
        rw [hlf]
        rfl⟩
    · rw [bt_bi_0, bt_inl_c (k := 3) (show (3 : Int64) = lN 3 from rfl) (by omega)] at y
      rw [if_neg y] at h
      exact h M (fun _ _ => rfl) hI
  · cases hf
def bt_CX6_could : bt_C := [(214, 1, 1, sX6_leftMany), (258, 1, 2, sX6_isAsSeen), (146, 1, 2, sX6_pastOn)]
def sX6_could : bt_Sp := bt_spM f_could
set_option maxRecDepth 100000 in
theorem mX6_could : bt_MT bt_TX6_could bt_FX6 bt_CX6_could 1 3 sX6_could := by
  intro as M N Rt h P hP
  obtain ⟨t, S, r, S', rfl, hI, hf, h⟩ := bt_spM_e h
  obtain ⟨w, im, u, z, q⟩ := S
  unfold f_could at hf
  split at hf
  · next _ _ _ _ _ e =>
    cases e
    obtain ⟨rfl, rfl⟩ := bt_some hf
    obtain ⟨a1, a2, a3, a4, a5, a6, a7, a8, a9, a10, a11, a12, a13, a14, a15⟩ := id hI
    obtain ⟨b0, b1, b2, b3, b4, b5, b6, b7, b8, b9, b10⟩ := id a2
    obtain ⟨hw, g1, g2, g3, g4, g5, g6, r0, r1, r2, r3, r4, r5, r6, c7, c8, c9, c10, c11⟩ := id a1
    have f1 := hw.1
    have f2 := hw.2.1
    have f3 := hw.2.2.1
    have hFF : bu_FF w (z 1) (z 2) (u 5) = bu_sc (w 12 4) (bu_fu w (z 1) (z 2) (u 5) (2 ^ (w 12 0 - w 12 4))) := bu_fu_fo hw _ _ _ _
    rw [hFF] at h
    have hB := bu_fu_b hw (z 1) (z 2) (u 5)
    have hsub : w 12 0 - w 12 4 ≤ 8 := by omega
    have h256 := bu_2p hsub
    have h64 := bu_2p (a := w 12 1) (by omega)
    have hpl := fun s => bt_mk_lt (bt_wf11 (bu_we_wf hw s)) (w 12 1)
    have hwe1 : ∀ s, bu_we w s 12 1 = w 12 1 := fun s => (bt_dn_12 w (bu_gf w s) (w 12 0 - w 12 4)).2.1 1 (by omega) (by omega)
    generalize hlf : w 12 0 - w 12 4 = lf at *
    have loop : ∀ v pc L st M' N', (pc = 4 ∧ st = [] ∧ N' = N ∧ bt_tm M M' ∧ ∃ s, s ≤ 2 ^ lf ∧ v = 2 ^ lf - s ∧ L = [some (.ref 67), some (.int (nI (bu_fu w (z 1) (z 2) (u 5) s).2.2.2.2)), some (.int (nI s))]) → P pc L st M' N' := by
      refine bt_loop rfl hP 80 [4] (fun v pc L st M' N' => (pc = 4 ∧ st = [] ∧ N' = N ∧ bt_tm M M' ∧ ∃ s, s ≤ 2 ^ lf ∧ v = 2 ^ lf - s ∧ L = [some (.ref 67), some (.int (nI (bu_fu w (z 1) (z 2) (u 5) s).2.2.2.2)), some (.int (nI s))])) ?_
      rintro v pc L st M' N' ⟨rfl, rfl, hN, t1, s, hs, rfl, rfl⟩
      subst hN
      obtain ⟨i1, i2, i3, i4, i5⟩ := hB s hs
      refine ⟨w, rfl, bt_tm_live t1 a1, ?_⟩
      rw [hlf]
      refine ⟨fun y1 => ?_, fun y1 => ?_⟩
      · rw [bu_sl1 lf (by omega), nI_leI (by omega) (by omega)] at y1
        have e : s = 2 ^ lf := by omega
        have key := h M' (bt_tm_fx t1) (bt_tm_I hI t1)
        rw [← e] at key
        exact key
      · rw [bu_sl1 lf (by omega), nI_leI (by omega) (by omega)] at y1
        have e21 : M' 67 21 = nI (u 5) := by rw [t1.1 67 (by omega)]; exact a12
        refine ⟨w, s, u 5, z 1, z 2, rfl, bt_tm_live t1 a1, rfl, by omega, e21, b6, fun j hj => ?_, fun M2 q1 q2 => ?_⟩
        · rw [t1.1 74 (by omega)]
          exact ⟨(a13 j hj).1, (a13 j hj).2, (b8 j hj).1, (b8 j hj).2⟩
        · have t2 := bt_tm_fr t1 (by omega) q1
          have hu : bu_fu w (z 1) (z 2) (u 5) (s + 1) = bu_ad (bu_ft (bu_we w s 10) (z 1) (z 2) (u 5)) s (bt_mk (bu_we w s 11) (w 12 1)) (bu_fu w (z 1) (z 2) (u 5) s) := rfl
          generalize bu_fu w (z 1) (z 2) (u 5) s = F at *
          have k2 := q2.2.2.1
          have k11 := q2.2.2.2.2.2.2.2.2.2.2.2.2.2.2.2.2.2.2
          rw [hwe1] at k2 k11
          have hp := hpl s
          by_cases hft : bu_ft (bu_we w s 10) (z 1) (z 2) (u 5) = true
          · rw [hft] at hu ⊢
            unfold bu_ad at hu
            rw [if_pos rfl] at hu ⊢
            refine ⟨fun y3 => absurd y3 (by decide), fun _ => ?_⟩
            refine ⟨360, w 12 1, bu_we w s 11, rfl, rfl, by omega, k2, f2, bt_wf11 q2.1, k11, ?_⟩
            refine ⟨2 ^ lf - (s + 1), by omega, rfl, rfl, rfl, t2, s + 1, by omega, rfl, ?_⟩
            rw [hu]
            dsimp only
            rw [nI_1, bt_or (by omega) (by omega)]
          · rw [if_neg hft]
            unfold bu_ad at hu
            rw [if_neg hft] at hu
            refine ⟨fun _ => ?_, fun y3 => absurd rfl y3⟩
            exact ⟨2 ^ lf - (s + 1), by omega, rfl, rfl, rfl, t2, s + 1, by omega, rfl, by rw [hu, nI_1, bt_or0]⟩
    refine bt_go rfl hP 60 [4] P (fun _ _ _ _ _ h => h) ?_
    exact loop _ _ _ _ _ _ ⟨rfl, rfl, rfl, bt_tm_rf, 0, Nat.zero_le _, rfl, rfl⟩
  · cases hf
end
section
/-! BY ODDS: sums, weights of sets of gaps -/
theorem bu_S_add (f g : Nat → Nat) : ∀ n, bt_ct1 (fun k => f k + g k) n = bt_ct1 f n + bt_ct1 g n
  | 0 => rfl
  | n + 1 => by
    simp only [bt_ct1, bu_S_add f g n]
    omega
theorem bu_S_mul (c : Nat) (f : Nat → Nat) : ∀ n, bt_ct1 (fun k => c * f k) n = c * bt_ct1 f n
  | 0 => rfl
  | n + 1 => by simp only [bt_ct1, bu_S_mul c f n, Nat.mul_add]
theorem bu_S_0 : ∀ n, bt_ct1 (fun _ => 0) n = 0
  | 0 => rfl
  | n + 1 => by simp only [bt_ct1, bu_S_0 n]
theorem bu_S_swap (f : Nat → Nat → Nat) (m : Nat) : ∀ n, bt_ct1 (fun a => bt_ct1 (fun b => f a b) m) n = bt_ct1 (fun b => bt_ct1 (fun a => f a b) n) m
  | 0 => (bu_S_0 m).symm
  | n + 1 => by
    simp only [bt_ct1]
    rw [bu_S_swap f m n, ← bu_S_add]
theorem bu_S_delta (a c : Nat) (ph : Nat → Nat) : ∀ n, bt_ct1 (fun q => (if a = q then c else 0) * ph q) n = if a < n then c * ph a else 0
  | 0 => by simp [bt_ct1]
  | n + 1 => by
    rw [bt_ct1, bu_S_delta a c ph n]
    by_cases h : a = n
    · rw [if_neg (by omega), if_pos h, if_pos (by omega), h]
      omega
    · rw [if_neg h]
      by_cases h2 : a < n
      · rw [if_pos h2, if_pos (by omega)]
        omega
      · rw [if_neg h2, if_neg (by omega)]
        omega
theorem bu_S_pad {f : Nat → Nat} {m : Nat} (h : ∀ k, m ≤ k → f k = 0) : ∀ d, bt_ct1 f (m + d) = bt_ct1 f m
  | 0 => rfl
  | d + 1 => by
    rw [← Nat.add_assoc, bt_ct1, bu_S_pad h d, h (m + d) (by omega)]
    rfl
theorem bu_S_split (f : Nat → Nat) (m : Nat) : ∀ n, bt_ct1 f (m + n) = bt_ct1 f m + bt_ct1 (fun k => f (m + k)) n
  | 0 => rfl
  | n + 1 => by
    rw [← Nat.add_assoc, bt_ct1, bu_S_split f m n, bt_ct1]
    omega
theorem bu_S_le {f g : Nat → Nat} : ∀ {n : Nat}, (∀ k, k < n → f k ≤ g k) → bt_ct1 f n ≤ bt_ct1 g n
  | 0, _ => Nat.le_refl _
  | n + 1, h => by
    have h1 := bu_S_le (n := n) (fun k hk => h k (by omega))
    have h2 := h n (by omega)
    simp only [bt_ct1]
    omega
def bu_wt (w : bt_W) (s : Nat) : Nat → Nat
  | 0 => 1
  | t + 1 => bu_wt w s t * (if s / 2 ^ t % 2 = 1 then w 3 (w 12 4 + t) else 10 - w 3 (w 12 4 + t))
theorem bu_wt_c {w : bt_W} {s s' : Nat} : ∀ j, (∀ t, t < j → s / 2 ^ t % 2 = s' / 2 ^ t % 2) → bu_wt w s j = bu_wt w s' j
  | 0, _ => rfl
  | j + 1, h => by rw [bu_wt, bu_wt, bu_wt_c j (fun t ht => h t (by omega)), h j (by omega)]
theorem bu_hb {s j t : Nat} (h : t < j) : (s + 2 ^ j) / 2 ^ t % 2 = s / 2 ^ t % 2 := by
  have e : 2 ^ j = (2 ^ (j - t - 1) * 2) * 2 ^ t := by
    rw [← Nat.pow_succ, ← Nat.pow_add]
    congr 1
    omega
  rw [e, Nat.add_mul_div_right _ _ (Nat.two_pow_pos t), Nat.add_mul_mod_self_right]
theorem bu_h1 {s j : Nat} (h : s < 2 ^ j) : (s + 2 ^ j) / 2 ^ j % 2 = 1 := by
  rw [Nat.add_div_right _ (Nat.two_pow_pos j), Nat.div_eq_of_lt h]
theorem bu_h0 {s j : Nat} (h : s < 2 ^ j) : s / 2 ^ j % 2 = 0 := by
  rw [Nat.div_eq_of_lt h]
/-- a mean over the sets of gaps of j stretches, times 10^j -/
def bu_X (w : bt_W) (j : Nat) (ps : Nat → Nat) : Nat := bt_ct1 (fun s => ps s * bu_wt w s j) (2 ^ j)
theorem bu_X_s (w : bt_W) (j : Nat) (ps : Nat → Nat) : bu_X w (j + 1) ps = bu_X w j (fun s => (10 - w 3 (w 12 4 + j)) * ps s + w 3 (w 12 4 + j) * ps (s + 2 ^ j)) := by
  unfold bu_X
  rw [show 2 ^ (j + 1) = 2 ^ j + 2 ^ j by rw [Nat.pow_succ]; omega, bu_S_split, ← bu_S_add]
  refine bt_ct1_c (fun s hs => ?_)
  have e1 : bu_wt w s (j + 1) = bu_wt w s j * (10 - w 3 (w 12 4 + j)) := by rw [bu_wt, bu_h0 hs, if_neg (by omega)]
  have e2 : bu_wt w (s + 2 ^ j) (j + 1) = bu_wt w s j * w 3 (w 12 4 + j) := by
    rw [bu_wt, bu_h1 hs, if_pos rfl, bu_wt_c j (fun t ht => bu_hb ht)]
  show ps s * bu_wt w s (j + 1) + ps (2 ^ j + s) * bu_wt w (2 ^ j + s) (j + 1) = _
  rw [Nat.add_comm (2 ^ j) s, e1, e2, Nat.add_mul]
  simp only [Nat.mul_comm, Nat.mul_left_comm, Nat.mul_assoc]
theorem bu_X_c {w : bt_W} {j : Nat} {f g : Nat → Nat} (h : ∀ s, s < 2 ^ j → f s = g s) : bu_X w j f = bu_X w j g := bt_ct1_c (fun s hs => by rw [h s hs])
theorem bu_X_add (w : bt_W) (j : Nat) (f g : Nat → Nat) : bu_X w j (fun s => f s + g s) = bu_X w j f + bu_X w j g := by
  unfold bu_X
  rw [← bu_S_add]
  refine bt_ct1_c (fun s _ => ?_)
  rw [Nat.add_mul]
theorem bu_X_mul (w : bt_W) (j c : Nat) (f : Nat → Nat) : bu_X w j (fun s => c * f s) = c * bu_X w j f := by
  unfold bu_X
  rw [← bu_S_mul]
  refine bt_ct1_c (fun s _ => ?_)
  rw [Nat.mul_assoc]
theorem bu_X_10 {w : bt_W} (hw : bt_wf w) {j : Nat} {f : Nat → Nat} (h : ∀ s, s < 2 ^ j → f (s + 2 ^ j) = f s) : bu_X w (j + 1) f = 10 * bu_X w j f := by
  rw [bu_X_s, ← bu_X_mul]
  refine bu_X_c (fun s hs => ?_)
  have h10 := hw.2.2.2.2.2.2.2.2.2.1 (w 12 4 + j)
  rw [h s hs, ← Nat.add_mul, show 10 - w 3 (w 12 4 + j) + w 3 (w 12 4 + j) = 10 by omega]
theorem bu_X_1 {w : bt_W} (hw : bt_wf w) : ∀ j, bu_X w j (fun _ => 1) = 10 ^ j
  | 0 => rfl
  | j + 1 => by rw [bu_X_10 hw (fun _ _ => rfl), bu_X_1 hw j, Nat.pow_succ, Nat.mul_comm]
theorem bu_X_le {w : bt_W} (hw : bt_wf w) {j c : Nat} {f : Nat → Nat} (h : ∀ s, s < 2 ^ j → f s ≤ c) : bu_X w j f ≤ c * 10 ^ j := by
  rw [← bu_X_1 hw j, ← bu_X_mul]
  refine bu_S_le (fun s hs => Nat.mul_le_mul_right _ ?_)
  have := h s hs
  show f s ≤ c * 1
  omega
theorem bu_X_low {w : bt_W} (hw : bt_wf w) {j : Nat} {f : Nat → Nat} (h : ∀ s t, (∀ p, p < j → s / 2 ^ p % 2 = t / 2 ^ p % 2) → f s = f t) : ∀ d, bu_X w (j + d) f = 10 ^ d * bu_X w j f
  | 0 => by rw [Nat.pow_zero, Nat.one_mul, Nat.add_zero]
  | d + 1 => by
    rw [← Nat.add_assoc, bu_X_10 hw (fun s _ => h _ _ (fun p hp => bu_hb (by omega))), bu_X_low hw h d, Nat.pow_succ, Nat.mul_comm (10 ^ d) 10, Nat.mul_assoc]
/-- who is past, as a mask -/
def bu_pm (w : bt_W) (j s : Nat) : Nat := bt_mk (bt_dn w (bu_gf w s) j 11) (w 12 1)
def bu_st (w : bt_W) (i g m : Nat) : Nat := bt_mk (fun k => m / 2 ^ k % 2 + bt_cm w i g (fun k => m / 2 ^ k % 2) k) (w 12 1)
theorem bu_fr_p {w : bt_W} {u n : Nat} {ps ps' : Nat → Nat} (h : ∀ k, k < n → ps k = ps' k) : ∀ k, k ≤ n → bt_fr w u ps k = bt_fr w u ps' k
  | 0, _ => rfl
  | k + 1, hk => by simp only [bt_fr, bu_fr_p h k (by omega), h k (by omega)]
theorem bu_cm_p {w : bt_W} {i g : Nat} {ps ps' : Nat → Nat} (h : ∀ k, k < w 12 1 → ps k = ps' k) (k : Nat) (hk : k < w 12 1) : bt_cm w i g ps k = bt_cm w i g ps' k := by
  unfold bt_cm bt_lbB
  rw [bu_fr_p h (k + 1) (by omega), h k hk, bt_ct1_c (f := fun k => 1 - ps k) (g := fun k => 1 - ps' k) (fun k hk => by rw [h k hk])]
theorem bu_b1D {w : bt_W} (hw : bt_wf w) {j : Nat} (hj : w 12 4 + j ≤ w 12 0) (gf : Nat → Nat) : bt_b1 (bt_dn w gf j 11) := bt_wf11 (bt_dn_wf gf hw j hj)
theorem bu_pm_b {w : bt_W} (hw : bt_wf w) {j s k : Nat} (hj : w 12 4 + j ≤ w 12 0) (hk : k < w 12 1) : bu_pm w j s / 2 ^ k % 2 = bt_dn w (bu_gf w s) j 11 k := by
  unfold bu_pm
  rw [bt_mk_bit (bu_b1D hw hj _), if_pos hk]
theorem bu_pm_s {w : bt_W} (hw : bt_wf w) {j s : Nat} (hj : w 12 4 + j ≤ w 12 0) : bu_pm w (j + 1) s = bu_st w (w 12 4 + j) (bu_gf w s (w 12 4 + j)) (bu_pm w j s) := by
  have hb := fun k (hk : k < w 12 1) => bu_pm_b hw (s := s) hj hk
  show bt_mk (bt_dn w (bu_gf w s) (j + 1) 11) (w 12 1) = bt_mk _ (w 12 1)
  refine bt_mk_c (fun k hk => ?_)
  rw [bu_dn11, hb k hk, bu_cm_p (ps := fun k => bu_pm w j s / 2 ^ k % 2) (ps' := bt_dn w (bu_gf w s) j 11) (fun k hk => hb k hk) k hk]
theorem bu_st_lt (w : bt_W) (i g m : Nat) : bu_st w i g m < 2 ^ w 12 1 := bt_mk_lt (bt_cm_le w i g _ bu_m2) _
/-- the class's weights -/
def bu_Wt (w : bt_W) : Nat → Nat → Nat
  | 0, q => if bt_mk (w 11) (w 12 1) = q then 1 else 0
  | j + 1, q => bt_ct1 (fun m => bu_Wt w j m * ((if bu_st w (w 12 4 + j) (w 2 (w 12 4 + j)) m = q then w 3 (w 12 4 + j) else 0) + (if bu_st w (w 12 4 + j) 0 m = q then 10 - w 3 (w 12 4 + j) else 0))) (2 ^ w 12 1)
theorem bu_Wt_0 {w : bt_W} (hw : bt_wf w) {q : Nat} (hq : 2 ^ w 12 1 ≤ q) : ∀ j, bu_Wt w j q = 0
  | 0 => by
    have := bt_mk_lt (bt_wf11 hw) (w 12 1)
    rw [bu_Wt, if_neg (by omega)]
  | j + 1 => by
    rw [bu_Wt]
    refine (bt_ct1_c (g := fun _ => 0) (fun m _ => ?_)).trans (bu_S_0 _)
    have h1 := bu_st_lt w (w 12 4 + j) (w 2 (w 12 4 + j)) m
    have h2 := bu_st_lt w (w 12 4 + j) 0 m
    rw [if_neg (by omega), if_neg (by omega), Nat.mul_zero]
theorem bu_64 {w : bt_W} (hw : bt_wf w) : 2 ^ w 12 1 ≤ 64 := Nat.pow_le_pow_right (n := 2) (j := 6) (by omega) hw.2.1
theorem bu_Wt_X {w : bt_W} (hw : bt_wf w) : ∀ j, w 12 4 + j ≤ w 12 0 → ∀ ph : Nat → Nat, bt_ct1 (fun q => bu_Wt w j q * ph q) 64 = bu_X w j (fun s => ph (bu_pm w j s))
  | 0, _, ph => by
    have h1 := bt_mk_lt (bt_wf11 hw) (w 12 1)
    have h2 := bu_64 hw
    have e : bt_ct1 (fun q => bu_Wt w 0 q * ph q) 64 = if bt_mk (w 11) (w 12 1) < 64 then 1 * ph (bt_mk (w 11) (w 12 1)) else 0 := bu_S_delta _ 1 ph 64
    rw [e, if_pos (by omega)]
    show 1 * ph (bt_mk (w 11) (w 12 1)) = 0 + ph (bt_mk (w 11) (w 12 1)) * 1
    omega
  | j + 1, hj, ph => by
    have h64 := bu_64 hw
    have ih := bu_Wt_X hw j (by omega) (fun m => (10 - w 3 (w 12 4 + j)) * ph (bu_st w (w 12 4 + j) 0 m) + w 3 (w 12 4 + j) * ph (bu_st w (w 12 4 + j) (w 2 (w 12 4 + j)) m))
    have e1 : bt_ct1 (fun q => bu_Wt w (j + 1) q * ph q) 64 = bt_ct1 (fun q => bt_ct1 (fun m => bu_Wt w j m * ((if bu_st w (w 12 4 + j) (w 2 (w 12 4 + j)) m = q then w 3 (w 12 4 + j) else 0) * ph q + (if bu_st w (w 12 4 + j) 0 m = q then 10 - w 3 (w 12 4 + j) else 0) * ph q)) (2 ^ w 12 1)) 64 := by
      refine bt_ct1_c (fun q _ => ?_)
      rw [bu_Wt, Nat.mul_comm, ← bu_S_mul]
      refine bt_ct1_c (fun m _ => ?_)
      rw [← Nat.add_mul, Nat.mul_comm (ph q), Nat.mul_assoc]
    rw [e1, bu_S_swap]
    have e2 : bt_ct1 (fun m => bt_ct1 (fun q => bu_Wt w j m * ((if bu_st w (w 12 4 + j) (w 2 (w 12 4 + j)) m = q then w 3 (w 12 4 + j) else 0) * ph q + (if bu_st w (w 12 4 + j) 0 m = q then 10 - w 3 (w 12 4 + j) else 0) * ph q)) 64) (2 ^ w 12 1) = bt_ct1 (fun m => bu_Wt w j m * ((10 - w 3 (w 12 4 + j)) * ph (bu_st w (w 12 4 + j) 0 m) + w 3 (w 12 4 + j) * ph (bu_st w (w 12 4 + j) (w 2 (w 12 4 + j)) m))) (2 ^ w 12 1) := by
      refine bt_ct1_c (fun m _ => ?_)
      have h1 := bu_st_lt w (w 12 4 + j) (w 2 (w 12 4 + j)) m
      have h2 := bu_st_lt w (w 12 4 + j) 0 m
      rw [bu_S_mul, bu_S_add, bu_S_delta, bu_S_delta, if_pos (by omega), if_pos (by omega), Nat.add_comm]
    have e3 := bu_S_pad (f := fun m => bu_Wt w j m * ((10 - w 3 (w 12 4 + j)) * ph (bu_st w (w 12 4 + j) 0 m) + w 3 (w 12 4 + j) * ph (bu_st w (w 12 4 + j) (w 2 (w 12 4 + j)) m))) (m := 2 ^ w 12 1) (fun m hm => by rw [bu_Wt_0 hw hm, Nat.zero_mul]) (64 - 2 ^ w 12 1)
    rw [show 2 ^ w 12 1 + (64 - 2 ^ w 12 1) = 64 by omega] at e3
    rw [e2, ← e3, ih, bu_X_s]
    refine bu_X_c (fun s hs => ?_)
    have d1 : bu_pm w (j + 1) s = bu_st w (w 12 4 + j) 0 (bu_pm w j s) := by
      rw [bu_pm_s hw (by omega), bu_gf_s, bu_h0 hs, Nat.zero_mul]
    have d2 : bu_pm w (j + 1) (s + 2 ^ j) = bu_st w (w 12 4 + j) (w 2 (w 12 4 + j)) (bu_pm w j s) := by
      have d3 : bu_pm w j (s + 2 ^ j) = bu_pm w j s := by
        unfold bu_pm
        rw [bu_dn_c (gf := bu_gf w (s + 2 ^ j)) (gf' := bu_gf w s) j (fun i hi => by rw [bu_gf_s, bu_gf_s, bu_hb hi])]
      rw [bu_pm_s hw (by omega), bu_gf_s, bu_h1 hs, Nat.one_mul, d3]
    rw [d1, d2]
end
section
/-! BY ODDS: what the class sums up is the mean over all sets -/
def bu_B (w : bt_W) (j k : Nat) : Nat := bt_ct1 (fun q => q / 2 ^ k % 2 * bu_Wt w j q) 64
theorem bu_B_X {w : bt_W} (hw : bt_wf w) {j k : Nat} (hj : w 12 4 + j ≤ w 12 0) (hk : k < w 12 1) : bu_B w j k = bu_X w j (fun s => bt_dn w (bu_gf w s) j 11 k) := by
  have h1 := bu_Wt_X hw j hj (fun q => q / 2 ^ k % 2)
  unfold bu_B
  rw [bt_ct1_c (f := fun q => q / 2 ^ k % 2 * bu_Wt w j q) (g := fun q => bu_Wt w j q * (q / 2 ^ k % 2)) (fun q _ => Nat.mul_comm _ _), h1]
  exact bu_X_c (fun s _ => bu_pm_b hw hj hk)
theorem bu_B_le {w : bt_W} (hw : bt_wf w) {j k : Nat} (hj : w 12 4 + j ≤ w 12 0) (hk : k < w 12 1) : bu_B w j k ≤ 10 ^ j := by
  rw [bu_B_X hw hj hk]
  have := bu_X_le hw (j := j) (c := 1) (f := fun s => bt_dn w (bu_gf w s) j 11 k) (fun s _ => bu_b1D hw hj _ k)
  omega
theorem bu_X_not {w : bt_W} (hw : bt_wf w) {j k : Nat} (hj : w 12 4 + j ≤ w 12 0) (hk : k < w 12 1) : bu_X w j (fun s => 1 - bt_dn w (bu_gf w s) j 11 k) = 10 ^ j - bu_B w j k := by
  have h1 := bu_X_add w j (fun s => 1 - bt_dn w (bu_gf w s) j 11 k) (fun s => bt_dn w (bu_gf w s) j 11 k)
  rw [← bu_B_X hw hj hk, bu_X_c (g := fun _ => 1) (fun s _ => by
    have : bt_dn w (bu_gf w s) j 11 k ≤ 1 := bu_b1D hw hj _ k
    show 1 - bt_dn w (bu_gf w s) j 11 k + bt_dn w (bu_gf w s) j 11 k = 1
    omega), bu_X_1 hw] at h1
  omega
theorem bu_D_low {w : bt_W} {s t j : Nat} (h : ∀ p, p < j → s / 2 ^ p % 2 = t / 2 ^ p % 2) : bt_dn w (bu_gf w s) j = bt_dn w (bu_gf w t) j := bu_dn_c j (fun i hi => by rw [bu_gf_s, bu_gf_s, h i hi])
/-- the class's mean of time -/
def bu_T (w : bt_W) (k : Nat) : Nat → Nat
  | 0 => w 10 k
  | j + 1 => bu_T w k j * 10 + w 0 (w 12 4 + j) * (bu_B w (j + 1) k * w 9 k + (10 ^ (j + 1) - bu_B w (j + 1) k) * w 12 2)
theorem bu_T_X {w : bt_W} (hw : bt_wf w) {k : Nat} (hk : k < w 12 1) : ∀ j, w 12 4 + j ≤ w 12 0 → bu_T w k j = bu_X w j (fun s => bt_dn w (bu_gf w s) j 10 k)
  | 0, _ => by
    show w 10 k = 0 + w 10 k * 1
    omega
  | j + 1, hj => by
    have ih := bu_T_X hw hk j (by omega)
    have e1 : bu_X w (j + 1) (fun s => bt_dn w (bu_gf w s) (j + 1) 10 k) = bu_X w (j + 1) (fun s => bt_dn w (bu_gf w s) j 10 k + w 0 (w 12 4 + j) * (w 9 k * bt_dn w (bu_gf w s) (j + 1) 11 k + w 12 2 * (1 - bt_dn w (bu_gf w s) (j + 1) 11 k))) := by
      refine bu_X_c (fun s _ => ?_)
      have hp : bt_dn w (bu_gf w s) (j + 1) 11 k ≤ 1 := bu_b1D hw hj _ k
      rw [bu_dn10, ← bu_dn11]
      unfold bt_mn
      rcases (show bt_dn w (bu_gf w s) (j + 1) 11 k = 0 ∨ bt_dn w (bu_gf w s) (j + 1) 11 k = 1 by omega) with e | e
      · rw [e, if_neg (by omega)]
        simp
      · rw [e, if_pos rfl]
        simp
    rw [e1, bu_X_add, bu_X_mul, bu_X_add, bu_X_mul, bu_X_mul, bu_X_10 hw (fun s _ => by rw [bu_D_low (fun p hp => bu_hb hp)]), bu_X_not hw hj hk, ← bu_B_X hw hj hk, ← ih, bu_T, Nat.mul_comm (bu_T w k j), Nat.mul_comm (w 9 k), Nat.mul_comm (w 12 2)]
theorem bu_R_X {w : bt_W} (hw : bt_wf w) {j : Nat} (hj : w 12 4 + j ≤ w 12 0) : ∀ m, m ≤ w 12 1 → bt_ct1 (fun k => 10 ^ j - bu_B w j k) m = bu_X w j (fun s => bt_ct1 (fun k => 1 - bt_dn w (bu_gf w s) j 11 k) m)
  | 0, _ => by
    have := bu_X_mul w j 0 (fun _ => 1)
    simp only [Nat.zero_mul] at this
    exact this.symm
  | m + 1, hm => by
    rw [bt_ct1, bu_R_X hw hj m (by omega), ← bu_X_not hw hj (show m < w 12 1 by omega), ← bu_X_add]
    rfl
theorem bu_lw_c {c a b : Nat} (x : Int32) (hc : 0 < c) : bt_lw (c * a) (c * b) x = bt_lw a b x := by
  unfold bt_lw
  rw [Nat.gcd_mul_left]
  by_cases h : x = 0
  · rw [if_pos h, if_pos h, Nat.mul_div_mul_left _ _ hc]
  · rw [if_neg h, if_neg h, Nat.mul_div_mul_left _ _ hc]
/-- where: the last stretch in which it came is the only one -/
def bu_cj (w : bt_W) (s j k : Nat) : Nat := bt_cm w (w 12 4 + j) (bu_gf w s (w 12 4 + j)) (bt_dn w (bu_gf w s) j 11) k
theorem bu_D1 {w : bt_W} {s j k : Nat} (h : bt_dn w (bu_gf w s) j 11 k = 1) : ∀ d, bt_dn w (bu_gf w s) (j + d) 11 k = 1
  | 0 => h
  | d + 1 => by
    have ih := bu_D1 h d
    rw [← Nat.add_assoc, bu_dn11, ih, bt_cm_ps _ _ _ _ _ ih]
theorem bu_wr_fix {w : bt_W} (hw : bt_wf w) {s j k : Nat} (hk : k < w 12 1) (hj : w 12 4 + j + 1 ≤ w 12 0) (h : bu_cj w s j k = 1) : ∀ d, bu_wr w s k (j + 1 + d) = nI (w 12 4 + j)
  | 0 => by
    rw [Nat.add_zero, bu_wr, if_pos ⟨hk, h⟩]
  | d + 1 => by
    have h1 : bt_dn w (bu_gf w s) (j + 1) 11 k ≤ 1 := bu_b1D hw hj _ k
    have h2 : bt_dn w (bu_gf w s) (j + 1) 11 k = bt_dn w (bu_gf w s) j 11 k + bu_cj w s j k := bu_dn11 _ _ _ _
    have h3 := bu_D1 (show bt_dn w (bu_gf w s) (j + 1) 11 k = 1 by omega) d
    rw [← Nat.add_assoc, bu_wr, if_neg (fun c => by
      rw [bt_cm_ps _ _ _ _ _ h3] at c
      exact absurd c.2 (by omega))]
    exact bu_wr_fix hw hk hj h d
theorem bu_wr_eq {w : bt_W} {s j k : Nat} (hb : w 12 4 + j < 2 ^ 31) : ∀ m, w 12 4 + m < 2 ^ 31 → bu_wr w s k m = nI (w 12 4 + j) → bu_cj w s j k = 1
  | 0, _, h => by
    have := congrArg Int32.toInt h
    rw [bu_wr, nI_toInt hb, show (-4 : Int32).toInt = -4 from by decide] at this
    omega
  | m + 1, hm, h => by
    rw [bu_wr] at h
    by_cases c : k < w 12 1 ∧ bt_cm w (w 12 4 + m) (bu_gf w s (w 12 4 + m)) (bt_dn w (bu_gf w s) m 11) k = 1
    · rw [if_pos c, nI_eq (by omega) hb] at h
      have e : m = j := by omega
      rw [← e]
      exact c.2
    · rw [if_neg c] at h
      exact bu_wr_eq hb m (by omega) h
theorem bu_V_X {w : bt_W} (hw : bt_wf w) {j k : Nat} (hk : k < w 12 1) (hj : w 12 4 + j < w 12 0) : bu_X w (w 12 0 - w 12 4) (fun s => if bu_wr w s k (w 12 0 - w 12 4) = nI (w 12 4 + j) then 1 else 0) = 10 ^ (w 12 0 - w 12 4 - (j + 1)) * (bu_B w (j + 1) k - 10 * bu_B w j k) := by
  have f1 := hw.1
  have e1 : bu_X w (w 12 0 - w 12 4) (fun s => if bu_wr w s k (w 12 0 - w 12 4) = nI (w 12 4 + j) then 1 else 0) = bu_X w (j + 1 + (w 12 0 - w 12 4 - (j + 1))) (fun s => bu_cj w s j k) := by
    rw [show j + 1 + (w 12 0 - w 12 4 - (j + 1)) = w 12 0 - w 12 4 by omega]
    refine bu_X_c (fun s _ => ?_)
    have b1 : bu_cj w s j k ≤ 1 := bt_cm_b1 _ _ _ _ k
    by_cases c : bu_cj w s j k = 1
    · have h1 := bu_wr_fix hw (s := s) hk (by omega) c (w 12 0 - w 12 4 - (j + 1))
      rw [show j + 1 + (w 12 0 - w 12 4 - (j + 1)) = w 12 0 - w 12 4 by omega] at h1
      rw [if_pos h1, c]
    · rw [if_neg (fun h => c (bu_wr_eq (by omega) _ (by omega) h))]
      omega
  rw [e1, bu_X_low hw (fun s t h => by
    unfold bu_cj
    rw [bu_gf_s, bu_gf_s, h j (by omega), bu_D_low (fun p hp => h p (by omega))])]
  congr 1
  have e2 := bu_X_add w (j + 1) (fun s => bt_dn w (bu_gf w s) j 11 k) (fun s => bu_cj w s j k)
  rw [bu_X_c (f := fun s => bt_dn w (bu_gf w s) j 11 k + bu_cj w s j k) (g := fun s => bt_dn w (bu_gf w s) (j + 1) 11 k) (fun s _ => (bu_dn11 _ _ _ _).symm), bu_X_10 hw (f := fun s => bt_dn w (bu_gf w s) j 11 k) (fun s _ => by rw [bu_D_low (fun p hp => bu_hb hp)]), ← bu_B_X hw (by omega) hk, ← bu_B_X hw (by omega) hk] at e2
  omega
end
section
/-! BY ODDS: the class's Chances -/
def bu_nW (N : bt_N) (w : bt_W) (j : Nat) : Prop := ∀ q, q < 64 → N 65 q = lN (bu_Wt w j q)
def sX1_begin : bt_Sp := fun as M N K => match as with
  | [.ref c, .ref d] => ∃ w, c = 64 ∧ d = 2 ∧ bt_cW M 2 w ∧ ∀ N', bu_nW N' w 0 → N' 64 2 = lN (10 ^ 0) → K none M N'
  | _ => False
set_option maxRecDepth 100000 in
theorem mX1_begin : bt_MT bt_TX1_begin bt_FX1 [] 0 3 sX1_begin := by
  intro as M N Rt h P hP
  unfold sX1_begin at h
  split at h
  · obtain ⟨w, rfl, rfl, a1, h⟩ := h
    obtain ⟨hw, h8, h9, h10, h11, h12, h13, h14, h15, h16, h17, r1, r2, r3, r4, r5, r6, r7, r8⟩ := id a1
    have hlt := bt_mk_lt (bt_wf11 hw) (w 12 1)
    have h64 := bu_64 hw
    have loop : ∀ v pc L st M' N', (pc = 2 ∧ st = [] ∧ M' = M ∧ ∃ k, k ≤ 64 ∧ v = 64 - k ∧ L = [some (.ref 64), some (.ref 2), some (.int (nI k))] ∧ ∀ q, q < k → N' 65 q = 0) → P pc L st M' N' := by
      refine bt_loop rfl hP 60 [2] (fun v pc L st M' N' => (pc = 2 ∧ st = [] ∧ M' = M ∧ ∃ k, k ≤ 64 ∧ v = 64 - k ∧ L = [some (.ref 64), some (.ref 2), some (.int (nI k))] ∧ ∀ q, q < k → N' 65 q = 0)) ?_
      rintro v pc L st M' N' ⟨rfl, rfl, hM, k, hk, rfl, rfl, q1⟩
      subst hM
      refine ⟨fun y1 => ?_, fun y1 => ?_⟩
      · rw [bt_lit, nI_leI (by omega) (by omega)] at y1
        refine ⟨_, rfl, bt_mk (w 11) (w 12 1), h13, by omega, ?_⟩
        intro N1 e1 N2 e2
        refine h N2 ?_ ?_
        · intro q hq
          rw [e2, bt_up_n (by omega), e1, bt_up_s, bu_Wt]
          by_cases c : bt_mk (w 11) (w 12 1) = q
          · rw [if_pos c, c, pk_uLs]
            rfl
          · rw [if_neg c, pk_uLn (fun z => c z.symm), q1 q (by omega)]
            rfl
        · rw [e2, bt_up_s, pk_uLs]
          rfl
      · rw [bt_lit, nI_leI (by omega) (by omega)] at y1
        refine ⟨_, rfl, k, rfl, by omega, ?_⟩
        intro N1 e1
        refine ⟨64 - (k + 1), by omega, rfl, rfl, rfl, k + 1, by omega, rfl, by rw [nI_1], fun q hq => ?_⟩
        rw [e1, bt_up_s]
        by_cases c : q = k
        · rw [c, pk_uLs]
        · rw [pk_uLn c]
          exact q1 q (by omega)
    refine bt_go rfl hP 60 [2] P (fun _ _ _ _ _ h => h) ?_
    exact loop _ _ _ _ _ _ ⟨rfl, rfl, rfl, 0, by omega, rfl, rfl, fun q hq => by omega⟩
  · exact False.elim h
/-- one set's share -/
def bu_sh1 (w : bt_W) (j m q : Nat) : Nat := bu_Wt w j m * ((if bu_st w (w 12 4 + j) (w 2 (w 12 4 + j)) m = q then w 3 (w 12 4 + j) else 0) + (if bu_st w (w 12 4 + j) 0 m = q then 10 - w 3 (w 12 4 + j) else 0))
def bt_CX1_spreadOne : bt_C := [(46, 1, 4, sX4_comers), (53, 0, 5, sArrcopyL)]
def sX1_spreadOne : bt_Sp := fun as M N K => match as with
  | [.ref c, .ref d, .int i] => ∃ w j, c = 64 ∧ d = 2 ∧ bt_cW M 2 w ∧ i = nI (w 12 4 + j) ∧ w 12 4 + j < w 12 0 ∧ bu_nW N w j ∧ N 64 2 = lN (10 ^ j) ∧ ∀ N', bu_nW N' w (j + 1) → N' 64 2 = lN (10 ^ (j + 1)) → K none M N'
  | _ => False
set_option maxHeartbeats 1000000 in
set_option maxRecDepth 100000 in
theorem mX1_spreadOne : bt_MT bt_TX1_spreadOne bt_FX1 bt_CX1_spreadOne 0 5 sX1_spreadOne := by
  intro as M N Rt h P hP
  unfold sX1_spreadOne at h
  split at h
  · obtain ⟨w, j, rfl, rfl, a1, rfl, hj, hN, hN2, h⟩ := h
    obtain ⟨hw, h8, h9, h10, h11, h12, h13, h14, h15, h16, h17, r1, r2, r3, r4, r5, r6, r7, r8⟩ := id a1
    obtain ⟨f1, f2, f3, f4, f5, f6, f7, f8, f9, f10, f11, f12, f13, f14, f15, f16, f17, f18⟩ := id hw
    have h64 := bu_64 hw
    have hsets : (1 : Int32) <<< (M 2 12 &&& 31) = nI (2 ^ w 12 1) := by rw [h12, bu_sl1 _ (by omega)]
    have g10 := f10 (w 12 4 + j)
    have m3 := r3 _ hj
    have m4 := r4 _ hj
    have o1 : (M 6 (w 12 4 + j)).toInt64 = lN (w 3 (w 12 4 + j)) := by rw [m4, nI_l (by omega)]
    have o2 : (10 - M 6 (w 12 4 + j)).toInt64 = lN (10 - w 3 (w 12 4 + j)) := by rw [m4, show (10 : Int32) = nI 10 from rfl, pk_sub g10, nI_l (by omega)]
    have hst : ∀ g m, m < 2 ^ w 12 1 → nI m ||| nI (bt_mk (bt_cm w (w 12 4 + j) g (fun k => m / 2 ^ k % 2)) (w 12 1)) = nI (bu_st w (w 12 4 + j) g m) := by
      intro g m hm
      have hc := bt_cm_b1 w (w 12 4 + j) g (fun k => m / 2 ^ k % 2)
      have hs : bt_b1 (fun k => m / 2 ^ k % 2 + bt_cm w (w 12 4 + j) g (fun k => m / 2 ^ k % 2) k) := bt_cm_le w (w 12 4 + j) g _ bu_m2
      have hlt := bt_mk_lt hc (w 12 1)
      have e : m = bt_mk (fun k => m / 2 ^ k % 2) (w 12 1) := by rw [bu_mkb, Nat.mod_eq_of_lt hm]
      have e2 := bt_mk_or (n := w 12 1) (bu_m2 (f := fun k => m / 2 ^ k)) hc hs (fun k _ => by
        have k1 : m / 2 ^ k % 2 + bt_cm w (w 12 4 + j) g (fun k => m / 2 ^ k % 2) k ≤ 1 := hs k
        show m / 2 ^ k % 2 + bt_cm w (w 12 4 + j) g (fun k => m / 2 ^ k % 2) k = 1 ↔ m / 2 ^ k % 2 = 1 ∨ bt_cm w (w 12 4 + j) g (fun k => m / 2 ^ k % 2) k = 1
        omega)
      rw [bt_or (by omega) (by omega), ← e] at *
      rw [e2]
      rfl
    have hpm : ∀ m, m < 2 ^ w 12 1 → nI m = nI (bt_mk (fun k => m / 2 ^ k % 2) (w 12 1)) := fun m hm => by rw [bu_mkb, Nat.mod_eq_of_lt hm]
    have loop2 : ∀ v pc L st M' N', (pc = 33 ∧ st = [] ∧ M' = M ∧ ∃ k, k ≤ 2 ^ w 12 1 ∧ v = 2 ^ w 12 1 - k ∧ L = [some (.ref 64), some (.ref 2), some (.int (nI (w 12 4 + j))), some (.int (nI (2 ^ w 12 1))), some (.int (nI k))] ∧ N' 65 = N 65 ∧ N' 64 = N 64 ∧ ∀ q, q < 2 ^ w 12 1 → N' 66 q = lN (bt_ct1 (fun m => bu_sh1 w j m q) k)) → P pc L st M' N' := by
      refine bt_loop rfl hP 100 [33] (fun v pc L st M' N' => (pc = 33 ∧ st = [] ∧ M' = M ∧ ∃ k, k ≤ 2 ^ w 12 1 ∧ v = 2 ^ w 12 1 - k ∧ L = [some (.ref 64), some (.ref 2), some (.int (nI (w 12 4 + j))), some (.int (nI (2 ^ w 12 1))), some (.int (nI k))] ∧ N' 65 = N 65 ∧ N' 64 = N 64 ∧ ∀ q, q < 2 ^ w 12 1 → N' 66 q = lN (bt_ct1 (fun m => bu_sh1 w j m q) k))) ?_
      rintro v pc L st M' N' ⟨rfl, rfl, hM, k, hk, rfl, rfl, q1, q2, q3⟩
      subst hM
      refine ⟨fun y1 => ?_, fun y1 => ?_⟩
      · rw [nI_leI (by omega) (by omega)] at y1
        have e : k = 2 ^ w 12 1 := by omega
        refine ⟨_, _, 2 ^ w 12 1, rfl, rfl, rfl, rfl, rfl, h64, h64, ?_⟩
        intro N1 e1 N2 e2
        refine h N2 ?_ ?_
        · intro q hq
          rw [e2, bt_up_n (by omega), e1, bt_up_s]
          by_cases c : q < 2 ^ w 12 1
          · rw [bt_cpy0 c, q3 q c, e]
            rfl
          · have ec : va_cpy (N' 66) (N' 65) 0 0 (2 ^ w 12 1) q = N' 65 q := pk_cpy_out (Or.inr (by omega))
            rw [ec, q1, hN q hq, bu_Wt_0 hw (by omega), bu_Wt_0 hw (by omega)]
        · rw [e2, bt_up_s, pk_uLs, e1, bt_up_n (by omega), q2, hN2, show (10 : Int64) = lN 10 from rfl, lN_mul, Nat.pow_succ]
      · rw [nI_leI (by omega) (by omega)] at y1
        have hkl : k < 2 ^ w 12 1 := by omega
        have w65 : N' 65 k = lN (bu_Wt w j k) := by rw [q1]; exact hN k (by omega)
        refine ⟨_, rfl, k, rfl, by omega, ?_⟩
        refine ⟨fun y2 => ?_, fun y2 => ?_⟩
        · rw [bt_cmp_eq, w65] at y2
          refine ⟨2 ^ w 12 1 - (k + 1), by omega, rfl, rfl, rfl, k + 1, by omega, rfl, by rw [nI_1], q1, q2, fun q hq => ?_⟩
          rw [bt_ct1, ← lN_add, q3 q hq]
          unfold bu_sh1
          rw [← lN_mul, y2, Int64.zero_mul, Int64.add_zero]
        · have s1 := bu_st_lt w (w 12 4 + j) (w 2 (w 12 4 + j)) k
          have s2 := bu_st_lt w (w 12 4 + j) 0 k
          refine ⟨_, rfl, w 12 4 + j, rfl, by omega, ?_⟩
          refine ⟨w, w 12 4 + j, w 2 (w 12 4 + j), fun p => k / 2 ^ p % 2, Or.inl rfl, a1, rfl, hj, m3, f9 _, bu_m2, hpm k hkl, ?_⟩
          refine ⟨_, rfl, bu_st w (w 12 4 + j) (w 2 (w 12 4 + j)) k, hst _ k hkl, by omega, ?_⟩
          refine ⟨_, rfl, k, rfl, by omega, ?_⟩
          refine ⟨_, rfl, w 12 4 + j, rfl, by omega, ?_⟩
          refine ⟨_, rfl, bu_st w (w 12 4 + j) (w 2 (w 12 4 + j)) k, hst _ k hkl, by omega, ?_⟩
          intro N1 e1
          refine ⟨w, w 12 4 + j, 0, fun p => k / 2 ^ p % 2, Or.inl rfl, a1, rfl, hj, rfl, by omega, bu_m2, hpm k hkl, ?_⟩
          refine ⟨_, rfl, bu_st w (w 12 4 + j) 0 k, hst _ k hkl, by omega, ?_⟩
          refine ⟨_, rfl, k, rfl, by omega, ?_⟩
          refine ⟨_, rfl, w 12 4 + j, rfl, by omega, ?_⟩
          refine ⟨_, rfl, bu_st w (w 12 4 + j) 0 k, hst _ k hkl, by omega, ?_⟩
          intro N2 e2
          have v65 : N1 65 k = lN (bu_Wt w j k) := by rw [e1, bt_up_n (by omega)]; exact w65
          rw [w65, o1] at e1
          rw [v65, o2] at e2
          refine ⟨2 ^ w 12 1 - (k + 1), by omega, rfl, rfl, rfl, k + 1, by omega, rfl, by rw [nI_1], ?_, ?_, fun q hq => ?_⟩
          · rw [e2, bt_up_n (by omega), e1, bt_up_n (by omega)]
            exact q1
          · rw [e2, bt_up_n (by omega), e1, bt_up_n (by omega)]
            exact q2
          · have n1 : N1 66 q = lN (bt_ct1 (fun m => bu_sh1 w j m q) k + (if bu_st w (w 12 4 + j) (w 2 (w 12 4 + j)) k = q then bu_Wt w j k * w 3 (w 12 4 + j) else 0)) := by
              rw [e1, bt_up_s]
              by_cases c : bu_st w (w 12 4 + j) (w 2 (w 12 4 + j)) k = q
              · rw [c, pk_uLs, if_pos rfl, q3 q hq, lN_mul, lN_add]
              · rw [pk_uLn (fun z => c z.symm), if_neg c, q3 q hq, Nat.add_zero]
            have n2 : N2 66 q = lN (bt_ct1 (fun m => bu_sh1 w j m q) k + (if bu_st w (w 12 4 + j) (w 2 (w 12 4 + j)) k = q then bu_Wt w j k * w 3 (w 12 4 + j) else 0) + (if bu_st w (w 12 4 + j) 0 k = q then bu_Wt w j k * (10 - w 3 (w 12 4 + j)) else 0)) := by
              rw [e2, bt_up_s]
              by_cases c : bu_st w (w 12 4 + j) 0 k = q
              · rw [c, pk_uLs, if_pos rfl, n1, lN_mul, lN_add]
              · rw [pk_uLn (fun z => c z.symm), if_neg c, n1, Nat.add_zero]
            rw [n2, bt_ct1]
            unfold bu_sh1
            rw [Nat.mul_add, ← Nat.add_assoc]
            congr 2
            · congr 1
              split
              · rfl
              · rw [Nat.mul_zero]
            · split
              · rfl
              · rw [Nat.mul_zero]
    have loop1 : ∀ v pc L st M' N', (pc = 10 ∧ st = [] ∧ M' = M ∧ ∃ k, k ≤ 2 ^ w 12 1 ∧ v = 2 ^ w 12 1 - k ∧ L = [some (.ref 64), some (.ref 2), some (.int (nI (w 12 4 + j))), some (.int (nI (2 ^ w 12 1))), some (.int (nI k))] ∧ N' 65 = N 65 ∧ N' 64 = N 64 ∧ ∀ q, q < k → N' 66 q = 0) → P pc L st M' N' := by
      refine bt_loopP rfl hP 100 [10, 33] (fun v pc L st M' N' => (pc = 10 ∧ st = [] ∧ M' = M ∧ ∃ k, k ≤ 2 ^ w 12 1 ∧ v = 2 ^ w 12 1 - k ∧ L = [some (.ref 64), some (.ref 2), some (.int (nI (w 12 4 + j))), some (.int (nI (2 ^ w 12 1))), some (.int (nI k))] ∧ N' 65 = N 65 ∧ N' 64 = N 64 ∧ ∀ q, q < k → N' 66 q = 0)) ?_
      rintro v pc L st M' N' ⟨rfl, rfl, hM, k, hk, rfl, rfl, q1, q2, q3⟩
      subst hM
      refine ⟨fun y1 => ?_, fun y1 => ?_⟩
      · rw [nI_leI (by omega) (by omega)] at y1
        exact Or.inr (loop2 _ _ _ _ _ _ ⟨rfl, rfl, rfl, 0, Nat.zero_le _, rfl, rfl, q1, q2, fun q hq => q3 q (by omega)⟩)
      · rw [nI_leI (by omega) (by omega)] at y1
        refine ⟨_, rfl, k, rfl, by omega, ?_⟩
        intro N1 e1
        refine Or.inl ⟨2 ^ w 12 1 - (k + 1), by omega, rfl, rfl, rfl, k + 1, by omega, rfl, by rw [nI_1], ?_, ?_, fun q hq => ?_⟩
        · rw [e1, bt_up_n (by omega)]
          exact q1
        · rw [e1, bt_up_n (by omega)]
          exact q2
        · rw [e1, bt_up_s]
          by_cases c : q = k
          · rw [c, pk_uLs]
          · rw [pk_uLn c]
            exact q3 q (by omega)
    refine bt_go rfl hP 60 [10] P (fun _ _ _ _ _ h => h) ?_
    exact loop1 _ _ _ _ _ _ ⟨rfl, rfl, rfl, 0, Nat.zero_le _, rfl, by rw [hsets]; rfl, rfl, rfl, fun q hq => by omega⟩
  · exact False.elim h
end
