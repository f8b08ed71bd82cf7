/-! THE WORDS OF THE CALLS, 3 -/
theorem bw_sX6_aheadOf : Cond.selects RX6 yX6_aheadOf yX6_aheadOf ∈ bt_big := bt_bigN 33 (by decide +kernel) (by decide +kernel)
theorem bw_dX6_aheadOf : yX6_aheadOf.cls ≠ "java/lang/invoke/MethodHandle" ∧ yX6_aheadOf.cls ≠ "java/lang/invoke/VarHandle" ∧ (parseMethodDescriptor yX6_aheadOf.desc).map (fun d => d.parameters.length) = some 2 := by decide +kernel
theorem bw_cX6_car : Cond.code yX6_car cX6_car 3 (some .int) ∈ bt_big := bw_T 979 (by decide +kernel) (by decide +kernel)
theorem bw_iX6_car : Cond.instanceMethod yX6_car ∈ bt_big := bw_T 977 (by decide +kernel) (by decide +kernel)
theorem bw_sX6_car : Cond.selects RX6 yX6_car yX6_car ∈ bt_big := bw_T 978 (by decide +kernel) (by decide +kernel)
theorem bw_dX6_car : yX6_car.cls ≠ "java/lang/invoke/MethodHandle" ∧ yX6_car.cls ≠ "java/lang/invoke/VarHandle" ∧ (parseMethodDescriptor yX6_car.desc).map (fun d => d.parameters.length) = some 2 := by decide +kernel
theorem bw_cX6_useOn : Cond.code yX6_useOn cX6_useOn 6 (some .int) ∈ bt_big := bw_T 997 (by decide +kernel) (by decide +kernel)
theorem bw_iX6_useOn : Cond.instanceMethod yX6_useOn ∈ bt_big := bw_T 996 (by decide +kernel) (by decide +kernel)
theorem bw_sX6_useOn : Cond.selects RX6 yX6_useOn yX6_useOn ∈ bt_big := bt_bigN 34 (by decide +kernel) (by decide +kernel)
theorem bw_dX6_useOn : yX6_useOn.cls ≠ "java/lang/invoke/MethodHandle" ∧ yX6_useOn.cls ≠ "java/lang/invoke/VarHandle" ∧ (parseMethodDescriptor yX6_useOn.desc).map (fun d => d.parameters.length) = some 3 := by decide +kernel
theorem bw_cX6_use : Cond.code yX6_use cX6_use 3 (some .int) ∈ bt_big := bw_T 992 (by decide +kernel) (by decide +kernel)
theorem bw_iX6_use : Cond.instanceMethod yX6_use ∈ bt_big := bw_T 990 (by decide +kernel) (by decide +kernel)
theorem bw_sX6_use : Cond.selects RX6 yX6_use yX6_use ∈ bt_big := bw_T 991 (by decide +kernel) (by decide +kernel)
theorem bw_dX6_use : yX6_use.cls ≠ "java/lang/invoke/MethodHandle" ∧ yX6_use.cls ≠ "java/lang/invoke/VarHandle" ∧ (parseMethodDescriptor yX6_use.desc).map (fun d => d.parameters.length) = some 2 := by decide +kernel
theorem bw_cX6_sets : Cond.code yX6_sets cX6_sets 5 (some .int) ∈ bt_big := bw_T 1005 (by decide +kernel) (by decide +kernel)
theorem bw_iX6_sets : Cond.instanceMethod yX6_sets ∈ bt_big := bw_T 1004 (by decide +kernel) (by decide +kernel)
theorem bw_sX6_sets : Cond.selects RX6 yX6_sets yX6_sets ∈ bt_big := bt_bigN 35 (by decide +kernel) (by decide +kernel)
theorem bw_dX6_sets : yX6_sets.cls ≠ "java/lang/invoke/MethodHandle" ∧ yX6_sets.cls ≠ "java/lang/invoke/VarHandle" ∧ (parseMethodDescriptor yX6_sets.desc).map (fun d => d.parameters.length) = some 3 := by decide +kernel
theorem bw_cX6_gap : Cond.code yX6_gap cX6_gap 3 (some .int) ∈ bt_big := bw_T 1001 (by decide +kernel) (by decide +kernel)
theorem bw_iX6_gap : Cond.instanceMethod yX6_gap ∈ bt_big := bw_T 999 (by decide +kernel) (by decide +kernel)
theorem bw_sX6_gap : Cond.selects RX6 yX6_gap yX6_gap ∈ bt_big := bw_T 1000 (by decide +kernel) (by decide +kernel)
theorem bw_dX6_gap : yX6_gap.cls ≠ "java/lang/invoke/MethodHandle" ∧ yX6_gap.cls ≠ "java/lang/invoke/VarHandle" ∧ (parseMethodDescriptor yX6_gap.desc).map (fun d => d.parameters.length) = some 2 := by decide +kernel
theorem bw_cX6_sight : Cond.code yX6_sight cX6_sight 3 (some .int) ∈ bt_big := bw_T 1009 (by decide +kernel) (by decide +kernel)
theorem bw_iX6_sight : Cond.instanceMethod yX6_sight ∈ bt_big := bw_T 1007 (by decide +kernel) (by decide +kernel)
theorem bw_sX6_sight : Cond.selects RX6 yX6_sight yX6_sight ∈ bt_big := bw_T 1008 (by decide +kernel) (by decide +kernel)
theorem bw_dX6_sight : yX6_sight.cls ≠ "java/lang/invoke/MethodHandle" ∧ yX6_sight.cls ≠ "java/lang/invoke/VarHandle" ∧ (parseMethodDescriptor yX6_sight.desc).map (fun d => d.parameters.length) = some 2 := by decide +kernel
theorem bw_cX6_odd : Cond.code yX6_odd cX6_odd 3 (some .int) ∈ bt_big := bw_T 1013 (by decide +kernel) (by decide +kernel)
theorem bw_iX6_odd : Cond.instanceMethod yX6_odd ∈ bt_big := bw_T 1011 (by decide +kernel) (by decide +kernel)
theorem bw_sX6_odd : Cond.selects RX6 yX6_odd yX6_odd ∈ bt_big := bw_T 1012 (by decide +kernel) (by decide +kernel)
theorem bw_dX6_odd : yX6_odd.cls ≠ "java/lang/invoke/MethodHandle" ∧ yX6_odd.cls ≠ "java/lang/invoke/VarHandle" ∧ (parseMethodDescriptor yX6_odd.desc).map (fun d => d.parameters.length) = some 2 := by decide +kernel
theorem bw_cX6_build : Cond.code yX6_build cX6_build 5 (some .int) ∈ bt_big := bw_T 1018 (by decide +kernel) (by decide +kernel)
theorem bw_iX6_build : Cond.instanceMethod yX6_build ∈ bt_big := bw_T 1016 (by decide +kernel) (by decide +kernel)
theorem bw_sX6_build : Cond.selects RX6 yX6_build yX6_build ∈ bt_big := bw_T 1017 (by decide +kernel) (by decide +kernel)
theorem bw_dX6_build : yX6_build.cls ≠ "java/lang/invoke/MethodHandle" ∧ yX6_build.cls ≠ "java/lang/invoke/VarHandle" ∧ (parseMethodDescriptor yX6_build.desc).map (fun d => d.parameters.length) = some 3 := by decide +kernel
theorem bw_cX6_polite : Cond.code yX6_polite cX6_polite 2 (some .int) ∈ bt_big := bw_T 1023 (by decide +kernel) (by decide +kernel)
theorem bw_iX6_polite : Cond.instanceMethod yX6_polite ∈ bt_big := bw_T 1021 (by decide +kernel) (by decide +kernel)
theorem bw_sX6_polite : Cond.selects RX6 yX6_polite yX6_polite ∈ bt_big := bw_T 1022 (by decide +kernel) (by decide +kernel)
theorem bw_dX6_polite : yX6_polite.cls ≠ "java/lang/invoke/MethodHandle" ∧ yX6_polite.cls ≠ "java/lang/invoke/VarHandle" ∧ (parseMethodDescriptor yX6_polite.desc).map (fun d => d.parameters.length) = some 1 := by decide +kernel
theorem bw_cX6_teach : Cond.code yX6_teach cX6_teach 4 (some .int) ∈ bt_big := bw_T 1027 (by decide +kernel) (by decide +kernel)
theorem bw_iX6_teach : Cond.instanceMethod yX6_teach ∈ bt_big := bw_T 1025 (by decide +kernel) (by decide +kernel)
theorem bw_sX6_teach : Cond.selects RX6 yX6_teach yX6_teach ∈ bt_big := bw_T 1026 (by decide +kernel) (by decide +kernel)
theorem bw_dX6_teach : yX6_teach.cls ≠ "java/lang/invoke/MethodHandle" ∧ yX6_teach.cls ≠ "java/lang/invoke/VarHandle" ∧ (parseMethodDescriptor yX6_teach.desc).map (fun d => d.parameters.length) = some 3 := by decide +kernel
theorem bw_cX6_isEnough : Cond.code yX6_isEnough cX6_isEnough 5 (some .boolean) ∈ bt_big := bw_T 1055 (by decide +kernel) (by decide +kernel)
theorem bw_iX6_isEnough : Cond.instanceMethod yX6_isEnough ∈ bt_big := bw_T 1054 (by decide +kernel) (by decide +kernel)
theorem bw_sX6_isEnough : Cond.selects RX6 yX6_isEnough yX6_isEnough ∈ bt_big := bt_bigN 40 (by decide +kernel) (by decide +kernel)
theorem bw_dX6_isEnough : yX6_isEnough.cls ≠ "java/lang/invoke/MethodHandle" ∧ yX6_isEnough.cls ≠ "java/lang/invoke/VarHandle" ∧ (parseMethodDescriptor yX6_isEnough.desc).map (fun d => d.parameters.length) = some 4 := by decide +kernel
theorem bw_cX6_passOn : Cond.code yX6_passOn cX6_passOn 8 (some .int) ∈ bt_big := bw_T 1051 (by decide +kernel) (by decide +kernel)
theorem bw_iX6_passOn : Cond.instanceMethod yX6_passOn ∈ bt_big := bw_T 1050 (by decide +kernel) (by decide +kernel)
theorem bw_sX6_passOn : Cond.selects RX6 yX6_passOn yX6_passOn ∈ bt_big := bt_bigN 39 (by decide +kernel) (by decide +kernel)
theorem bw_dX6_passOn : yX6_passOn.cls ≠ "java/lang/invoke/MethodHandle" ∧ yX6_passOn.cls ≠ "java/lang/invoke/VarHandle" ∧ (parseMethodDescriptor yX6_passOn.desc).map (fun d => d.parameters.length) = some 2 := by decide +kernel
theorem bw_cX6_bitsOf : Cond.code yX6_bitsOf cX6_bitsOf 3 (some .int) ∈ bt_big := bw_T 1047 (by decide +kernel) (by decide +kernel)
theorem bw_iX6_bitsOf : Cond.static yX6_bitsOf ∈ bt_big := bw_T 1046 (by decide +kernel) (by decide +kernel)
theorem bw_dX6_bitsOf : yX6_bitsOf.cls ≠ "java/lang/invoke/MethodHandle" ∧ yX6_bitsOf.cls ≠ "java/lang/invoke/VarHandle" ∧ (parseMethodDescriptor yX6_bitsOf.desc).map (fun d => d.parameters.length) = some 1 := by decide +kernel
theorem bw_cX6_driveOn : Cond.code yX6_driveOn cX6_driveOn 10 (some .int) ∈ bt_big := bw_T 1044 (by decide +kernel) (by decide +kernel)
theorem bw_iX6_driveOn : Cond.instanceMethod yX6_driveOn ∈ bt_big := bw_T 1043 (by decide +kernel) (by decide +kernel)
theorem bw_sX6_driveOn : Cond.selects RX6 yX6_driveOn yX6_driveOn ∈ bt_big := bt_bigN 38 (by decide +kernel) (by decide +kernel)
theorem bw_dX6_driveOn : yX6_driveOn.cls ≠ "java/lang/invoke/MethodHandle" ∧ yX6_driveOn.cls ≠ "java/lang/invoke/VarHandle" ∧ (parseMethodDescriptor yX6_driveOn.desc).map (fun d => d.parameters.length) = some 2 := by decide +kernel
theorem bw_cX6_areLeft : Cond.code yX6_areLeft cX6_areLeft 2 (some .boolean) ∈ bt_big := bw_T 1040 (by decide +kernel) (by decide +kernel)
theorem bw_iX6_areLeft : Cond.instanceMethod yX6_areLeft ∈ bt_big := bw_T 1039 (by decide +kernel) (by decide +kernel)
theorem bw_sX6_areLeft : Cond.selects RX6 yX6_areLeft yX6_areLeft ∈ bt_big := bt_bigN 37 (by decide +kernel) (by decide +kernel)
theorem bw_dX6_areLeft : yX6_areLeft.cls ≠ "java/lang/invoke/MethodHandle" ∧ yX6_areLeft.cls ≠ "java/lang/invoke/VarHandle" ∧ (parseMethodDescriptor yX6_areLeft.desc).map (fun d => d.parameters.length) = some 1 := by decide +kernel
theorem bw_cX6_drives : Cond.code yX6_drives cX6_drives 2 (some .int) ∈ bt_big := bw_T 1036 (by decide +kernel) (by decide +kernel)
theorem bw_iX6_drives : Cond.instanceMethod yX6_drives ∈ bt_big := bw_T 1035 (by decide +kernel) (by decide +kernel)
theorem bw_sX6_drives : Cond.selects RX6 yX6_drives yX6_drives ∈ bt_big := bt_bigN 36 (by decide +kernel) (by decide +kernel)
theorem bw_dX6_drives : yX6_drives.cls ≠ "java/lang/invoke/MethodHandle" ∧ yX6_drives.cls ≠ "java/lang/invoke/VarHandle" ∧ (parseMethodDescriptor yX6_drives.desc).map (fun d => d.parameters.length) = some 1 := by decide +kernel
theorem bw_cX6_drive : Cond.code yX6_drive cX6_drive 2 (some .int) ∈ bt_big := bw_T 1032 (by decide +kernel) (by decide +kernel)
theorem bw_iX6_drive : Cond.instanceMethod yX6_drive ∈ bt_big := bw_T 1030 (by decide +kernel) (by decide +kernel)
theorem bw_sX6_drive : Cond.selects RX6 yX6_drive yX6_drive ∈ bt_big := bw_T 1031 (by decide +kernel) (by decide +kernel)
theorem bw_dX6_drive : yX6_drive.cls ≠ "java/lang/invoke/MethodHandle" ∧ yX6_drive.cls ≠ "java/lang/invoke/VarHandle" ∧ (parseMethodDescriptor yX6_drive.desc).map (fun d => d.parameters.length) = some 1 := by decide +kernel
theorem bw_cX6_ownGap : Cond.code yX6_ownGap cX6_ownGap 2 (some .int) ∈ bt_big := bw_T 1063 (by decide +kernel) (by decide +kernel)
theorem bw_iX6_ownGap : Cond.instanceMethod yX6_ownGap ∈ bt_big := bw_T 1062 (by decide +kernel) (by decide +kernel)
theorem bw_sX6_ownGap : Cond.selects RX6 yX6_ownGap yX6_ownGap ∈ bt_big := bt_bigN 41 (by decide +kernel) (by decide +kernel)
theorem bw_dX6_ownGap : yX6_ownGap.cls ≠ "java/lang/invoke/MethodHandle" ∧ yX6_ownGap.cls ≠ "java/lang/invoke/VarHandle" ∧ (parseMethodDescriptor yX6_ownGap.desc).map (fun d => d.parameters.length) = some 1 := by decide +kernel
theorem bw_cX6_on : Cond.code yX6_on cX6_on 1 (some .int) ∈ bt_big := bw_T 1059 (by decide +kernel) (by decide +kernel)
theorem bw_iX6_on : Cond.instanceMethod yX6_on ∈ bt_big := bw_T 1057 (by decide +kernel) (by decide +kernel)
theorem bw_sX6_on : Cond.selects RX6 yX6_on yX6_on ∈ bt_big := bw_T 1058 (by decide +kernel) (by decide +kernel)
theorem bw_dX6_on : yX6_on.cls ≠ "java/lang/invoke/MethodHandle" ∧ yX6_on.cls ≠ "java/lang/invoke/VarHandle" ∧ (parseMethodDescriptor yX6_on.desc).map (fun d => d.parameters.length) = some 0 := by decide +kernel
theorem bw_cX6_copies : Cond.code yX6_copies cX6_copies 4 none ∈ bt_big := bw_T 1071 (by decide +kernel) (by decide +kernel)
theorem bw_iX6_copies : Cond.instanceMethod yX6_copies ∈ bt_big := bw_T 1070 (by decide +kernel) (by decide +kernel)
theorem bw_sX6_copies : Cond.selects RX6 yX6_copies yX6_copies ∈ bt_big := bt_bigN 42 (by decide +kernel) (by decide +kernel)
theorem bw_dX6_copies : yX6_copies.cls ≠ "java/lang/invoke/MethodHandle" ∧ yX6_copies.cls ≠ "java/lang/invoke/VarHandle" ∧ (parseMethodDescriptor yX6_copies.desc).map (fun d => d.parameters.length) = some 2 := by decide +kernel
theorem bw_cX6_triesFrom : Cond.code yX6_triesFrom cX6_triesFrom 2 none ∈ bt_big := bw_T 1084 (by decide +kernel) (by decide +kernel)
theorem bw_iX6_triesFrom : Cond.instanceMethod yX6_triesFrom ∈ bt_big := bw_T 1083 (by decide +kernel) (by decide +kernel)
theorem bw_sX6_triesFrom : Cond.selects RX6 yX6_triesFrom yX6_triesFrom ∈ bt_big := bt_bigN 43 (by decide +kernel) (by decide +kernel)
theorem bw_dX6_triesFrom : yX6_triesFrom.cls ≠ "java/lang/invoke/MethodHandle" ∧ yX6_triesFrom.cls ≠ "java/lang/invoke/VarHandle" ∧ (parseMethodDescriptor yX6_triesFrom.desc).map (fun d => d.parameters.length) = some 1 := by decide +kernel
theorem bw_cX6_timesOn : Cond.code yX6_timesOn cX6_timesOn 4 (some .int) ∈ bt_big := bw_T 1088 (by decide +kernel) (by decide +kernel)
theorem bw_iX6_timesOn : Cond.instanceMethod yX6_timesOn ∈ bt_big := bw_T 1087 (by decide +kernel) (by decide +kernel)
theorem bw_sX6_timesOn : Cond.selects RX6 yX6_timesOn yX6_timesOn ∈ bt_big := bt_bigN 44 (by decide +kernel) (by decide +kernel)
theorem bw_dX6_timesOn : yX6_timesOn.cls ≠ "java/lang/invoke/MethodHandle" ∧ yX6_timesOn.cls ≠ "java/lang/invoke/VarHandle" ∧ (parseMethodDescriptor yX6_timesOn.desc).map (fun d => d.parameters.length) = some 1 := by decide +kernel
theorem bw_cX6_ahead : Cond.code yX6_ahead cX6_ahead 6 (some .int) ∈ bt_big := bw_T 1067 (by decide +kernel) (by decide +kernel)
theorem bw_iX6_ahead : Cond.instanceMethod yX6_ahead ∈ bt_big := bw_T 1065 (by decide +kernel) (by decide +kernel)
theorem bw_sX6_ahead : Cond.selects RX6 yX6_ahead yX6_ahead ∈ bt_big := bw_T 1066 (by decide +kernel) (by decide +kernel)
theorem bw_dX6_ahead : yX6_ahead.cls ≠ "java/lang/invoke/MethodHandle" ∧ yX6_ahead.cls ≠ "java/lang/invoke/VarHandle" ∧ (parseMethodDescriptor yX6_ahead.desc).map (fun d => d.parameters.length) = some 2 := by decide +kernel
theorem bw_cX6_tail : Cond.code yX6_tail cX6_tail 3 (some .int) ∈ bt_big := bw_T 1075 (by decide +kernel) (by decide +kernel)
theorem bw_iX6_tail : Cond.instanceMethod yX6_tail ∈ bt_big := bw_T 1073 (by decide +kernel) (by decide +kernel)
theorem bw_sX6_tail : Cond.selects RX6 yX6_tail yX6_tail ∈ bt_big := bw_T 1074 (by decide +kernel) (by decide +kernel)
theorem bw_dX6_tail : yX6_tail.cls ≠ "java/lang/invoke/MethodHandle" ∧ yX6_tail.cls ≠ "java/lang/invoke/VarHandle" ∧ (parseMethodDescriptor yX6_tail.desc).map (fun d => d.parameters.length) = some 1 := by decide +kernel
theorem bw_cX6_milesLeft : Cond.code yX6_milesLeft cX6_milesLeft 3 (some .int) ∈ bt_big := bw_T 1092 (by decide +kernel) (by decide +kernel)
theorem bw_iX6_milesLeft : Cond.instanceMethod yX6_milesLeft ∈ bt_big := bw_T 1091 (by decide +kernel) (by decide +kernel)
theorem bw_sX6_milesLeft : Cond.selects RX6 yX6_milesLeft yX6_milesLeft ∈ bt_big := bt_bigN 45 (by decide +kernel) (by decide +kernel)
theorem bw_dX6_milesLeft : yX6_milesLeft.cls ≠ "java/lang/invoke/MethodHandle" ∧ yX6_milesLeft.cls ≠ "java/lang/invoke/VarHandle" ∧ (parseMethodDescriptor yX6_milesLeft.desc).map (fun d => d.parameters.length) = some 0 := by decide +kernel
theorem bw_cX6_lost : Cond.code yX6_lost cX6_lost 3 (some .int) ∈ bt_big := bw_T 1080 (by decide +kernel) (by decide +kernel)
theorem bw_iX6_lost : Cond.instanceMethod yX6_lost ∈ bt_big := bw_T 1078 (by decide +kernel) (by decide +kernel)
theorem bw_sX6_lost : Cond.selects RX6 yX6_lost yX6_lost ∈ bt_big := bw_T 1079 (by decide +kernel) (by decide +kernel)
theorem bw_dX6_lost : yX6_lost.cls ≠ "java/lang/invoke/MethodHandle" ∧ yX6_lost.cls ≠ "java/lang/invoke/VarHandle" ∧ (parseMethodDescriptor yX6_lost.desc).map (fun d => d.parameters.length) = some 0 := by decide +kernel
theorem bw_cX6_leftMany : Cond.code yX6_leftMany cX6_leftMany 1 (some .int) ∈ bt_big := bw_T 1104 (by decide +kernel) (by decide +kernel)
theorem bw_iX6_leftMany : Cond.instanceMethod yX6_leftMany ∈ bt_big := bw_T 1103 (by decide +kernel) (by decide +kernel)
theorem bw_sX6_leftMany : Cond.selects RX6 yX6_leftMany yX6_leftMany ∈ bt_big := bt_bigN 47 (by decide +kernel) (by decide +kernel)
theorem bw_dX6_leftMany : yX6_leftMany.cls ≠ "java/lang/invoke/MethodHandle" ∧ yX6_leftMany.cls ≠ "java/lang/invoke/VarHandle" ∧ (parseMethodDescriptor yX6_leftMany.desc).map (fun d => d.parameters.length) = some 0 := by decide +kernel
theorem bw_cX6_triesBy : Cond.code yX6_triesBy cX6_triesBy 7 (some .int) ∈ bt_big := bw_T 1108 (by decide +kernel) (by decide +kernel)
theorem bw_iX6_triesBy : Cond.instanceMethod yX6_triesBy ∈ bt_big := bw_T 1107 (by decide +kernel) (by decide +kernel)
theorem bw_sX6_triesBy : Cond.selects RX6 yX6_triesBy yX6_triesBy ∈ bt_big := bt_bigN 48 (by decide +kernel) (by decide +kernel)
theorem bw_dX6_triesBy : yX6_triesBy.cls ≠ "java/lang/invoke/MethodHandle" ∧ yX6_triesBy.cls ≠ "java/lang/invoke/VarHandle" ∧ (parseMethodDescriptor yX6_triesBy.desc).map (fun d => d.parameters.length) = some 2 := by decide +kernel
theorem bw_cX6_weightOf : Cond.code yX6_weightOf cX6_weightOf 6 (some .long) ∈ bt_big := bw_T 1112 (by decide +kernel) (by decide +kernel)
theorem bw_iX6_weightOf : Cond.instanceMethod yX6_weightOf ∈ bt_big := bw_T 1111 (by decide +kernel) (by decide +kernel)
theorem bw_sX6_weightOf : Cond.selects RX6 yX6_weightOf yX6_weightOf ∈ bt_big := bt_bigN 49 (by decide +kernel) (by decide +kernel)
theorem bw_dX6_weightOf : yX6_weightOf.cls ≠ "java/lang/invoke/MethodHandle" ∧ yX6_weightOf.cls ≠ "java/lang/invoke/VarHandle" ∧ (parseMethodDescriptor yX6_weightOf.desc).map (fun d => d.parameters.length) = some 1 := by decide +kernel
theorem bw_cX6_allWeight : Cond.code yX6_allWeight cX6_allWeight 4 (some .long) ∈ bt_big := bw_T 1116 (by decide +kernel) (by decide +kernel)
theorem bw_iX6_allWeight : Cond.instanceMethod yX6_allWeight ∈ bt_big := bw_T 1115 (by decide +kernel) (by decide +kernel)
theorem bw_sX6_allWeight : Cond.selects RX6 yX6_allWeight yX6_allWeight ∈ bt_big := bt_bigN 50 (by decide +kernel) (by decide +kernel)
theorem bw_dX6_allWeight : yX6_allWeight.cls ≠ "java/lang/invoke/MethodHandle" ∧ yX6_allWeight.cls ≠ "java/lang/invoke/VarHandle" ∧ (parseMethodDescriptor yX6_allWeight.desc).map (fun d => d.parameters.length) = some 0 := by decide +kernel
theorem bw_cX6_lowest : Cond.code yX6_lowest cX6_lowest 11 (some .long) ∈ bt_big := bw_T 1119 (by decide +kernel) (by decide +kernel)
theorem bw_iX6_lowest : Cond.static yX6_lowest ∈ bt_big := bw_T 1118 (by decide +kernel) (by decide +kernel)
theorem bw_dX6_lowest : yX6_lowest.cls ≠ "java/lang/invoke/MethodHandle" ∧ yX6_lowest.cls ≠ "java/lang/invoke/VarHandle" ∧ (parseMethodDescriptor yX6_lowest.desc).map (fun d => d.parameters.length) = some 3 := by decide +kernel
theorem bw_cX6_meanOf : Cond.code yX6_meanOf cX6_meanOf 10 (some .long) ∈ bt_big := bw_T 1100 (by decide +kernel) (by decide +kernel)
theorem bw_iX6_meanOf : Cond.instanceMethod yX6_meanOf ∈ bt_big := bw_T 1099 (by decide +kernel) (by decide +kernel)
theorem bw_sX6_meanOf : Cond.selects RX6 yX6_meanOf yX6_meanOf ∈ bt_big := bt_bigN 46 (by decide +kernel) (by decide +kernel)
theorem bw_dX6_meanOf : yX6_meanOf.cls ≠ "java/lang/invoke/MethodHandle" ∧ yX6_meanOf.cls ≠ "java/lang/invoke/VarHandle" ∧ (parseMethodDescriptor yX6_meanOf.desc).map (fun d => d.parameters.length) = some 3 := by decide +kernel
theorem bw_cX6_past : Cond.code yX6_past cX6_past 3 (some .long) ∈ bt_big := bw_T 1096 (by decide +kernel) (by decide +kernel)
theorem bw_iX6_past : Cond.instanceMethod yX6_past ∈ bt_big := bw_T 1094 (by decide +kernel) (by decide +kernel)
theorem bw_sX6_past : Cond.selects RX6 yX6_past yX6_past ∈ bt_big := bw_T 1095 (by decide +kernel) (by decide +kernel)
theorem bw_dX6_past : yX6_past.cls ≠ "java/lang/invoke/MethodHandle" ∧ yX6_past.cls ≠ "java/lang/invoke/VarHandle" ∧ (parseMethodDescriptor yX6_past.desc).map (fun d => d.parameters.length) = some 2 := by decide +kernel
theorem bw_cX6_mean : Cond.code yX6_mean cX6_mean 3 (some .long) ∈ bt_big := bw_T 1124 (by decide +kernel) (by decide +kernel)
theorem bw_iX6_mean : Cond.instanceMethod yX6_mean ∈ bt_big := bw_T 1122 (by decide +kernel) (by decide +kernel)
theorem bw_sX6_mean : Cond.selects RX6 yX6_mean yX6_mean ∈ bt_big := bw_T 1123 (by decide +kernel) (by decide +kernel)
theorem bw_dX6_mean : yX6_mean.cls ≠ "java/lang/invoke/MethodHandle" ∧ yX6_mean.cls ≠ "java/lang/invoke/VarHandle" ∧ (parseMethodDescriptor yX6_mean.desc).map (fun d => d.parameters.length) = some 2 := by decide +kernel
theorem bw_cX6_row : Cond.code yX6_row cX6_row 2 (some .long) ∈ bt_big := bw_T 1128 (by decide +kernel) (by decide +kernel)
theorem bw_iX6_row : Cond.instanceMethod yX6_row ∈ bt_big := bw_T 1126 (by decide +kernel) (by decide +kernel)
theorem bw_sX6_row : Cond.selects RX6 yX6_row yX6_row ∈ bt_big := bw_T 1127 (by decide +kernel) (by decide +kernel)
theorem bw_dX6_row : yX6_row.cls ≠ "java/lang/invoke/MethodHandle" ∧ yX6_row.cls ≠ "java/lang/invoke/VarHandle" ∧ (parseMethodDescriptor yX6_row.desc).map (fun d => d.parameters.length) = some 1 := by decide +kernel
theorem bw_cX6_where : Cond.code yX6_where cX6_where 4 (some .long) ∈ bt_big := bw_T 1132 (by decide +kernel) (by decide +kernel)
theorem bw_iX6_where : Cond.instanceMethod yX6_where ∈ bt_big := bw_T 1130 (by decide +kernel) (by decide +kernel)
theorem bw_sX6_where : Cond.selects RX6 yX6_where yX6_where ∈ bt_big := bw_T 1131 (by decide +kernel) (by decide +kernel)
theorem bw_dX6_where : yX6_where.cls ≠ "java/lang/invoke/MethodHandle" ∧ yX6_where.cls ≠ "java/lang/invoke/VarHandle" ∧ (parseMethodDescriptor yX6_where.desc).map (fun d => d.parameters.length) = some 3 := by decide +kernel
theorem bw_cX6_timesOfOthers : Cond.code yX6_timesOfOthers cX6_timesOfOthers 2 (some .int) ∈ bt_big := bw_T 1140 (by decide +kernel) (by decide +kernel)
theorem bw_iX6_timesOfOthers : Cond.instanceMethod yX6_timesOfOthers ∈ bt_big := bw_T 1139 (by decide +kernel) (by decide +kernel)
theorem bw_sX6_timesOfOthers : Cond.selects RX6 yX6_timesOfOthers yX6_timesOfOthers ∈ bt_big := bt_bigN 51 (by decide +kernel) (by decide +kernel)
theorem bw_dX6_timesOfOthers : yX6_timesOfOthers.cls ≠ "java/lang/invoke/MethodHandle" ∧ yX6_timesOfOthers.cls ≠ "java/lang/invoke/VarHandle" ∧ (parseMethodDescriptor yX6_timesOfOthers.desc).map (fun d => d.parameters.length) = some 1 := by decide +kernel
theorem bw_cX6_cost : Cond.code yX6_cost cX6_cost 3 (some .int) ∈ bt_big := bw_T 1136 (by decide +kernel) (by decide +kernel)
theorem bw_iX6_cost : Cond.instanceMethod yX6_cost ∈ bt_big := bw_T 1134 (by decide +kernel) (by decide +kernel)
theorem bw_sX6_cost : Cond.selects RX6 yX6_cost yX6_cost ∈ bt_big := bw_T 1135 (by decide +kernel) (by decide +kernel)
theorem bw_dX6_cost : yX6_cost.cls ≠ "java/lang/invoke/MethodHandle" ∧ yX6_cost.cls ≠ "java/lang/invoke/VarHandle" ∧ (parseMethodDescriptor yX6_cost.desc).map (fun d => d.parameters.length) = some 1 := by decide +kernel
theorem bw_cX6_mostSaved : Cond.code yX6_mostSaved cX6_mostSaved 8 (some .int) ∈ bt_big := bw_T 1148 (by decide +kernel) (by decide +kernel)
theorem bw_iX6_mostSaved : Cond.instanceMethod yX6_mostSaved ∈ bt_big := bw_T 1147 (by decide +kernel) (by decide +kernel)
theorem bw_sX6_mostSaved : Cond.selects RX6 yX6_mostSaved yX6_mostSaved ∈ bt_big := bt_bigN 52 (by decide +kernel) (by decide +kernel)
theorem bw_dX6_mostSaved : yX6_mostSaved.cls ≠ "java/lang/invoke/MethodHandle" ∧ yX6_mostSaved.cls ≠ "java/lang/invoke/VarHandle" ∧ (parseMethodDescriptor yX6_mostSaved.desc).map (fun d => d.parameters.length) = some 2 := by decide +kernel
theorem bw_cX6_third : Cond.code yX6_third cX6_third 2 (some .int) ∈ bt_big := bw_T 1144 (by decide +kernel) (by decide +kernel)
theorem bw_iX6_third : Cond.instanceMethod yX6_third ∈ bt_big := bw_T 1142 (by decide +kernel) (by decide +kernel)
theorem bw_sX6_third : Cond.selects RX6 yX6_third yX6_third ∈ bt_big := bw_T 1143 (by decide +kernel) (by decide +kernel)
theorem bw_dX6_third : yX6_third.cls ≠ "java/lang/invoke/MethodHandle" ∧ yX6_third.cls ≠ "java/lang/invoke/VarHandle" ∧ (parseMethodDescriptor yX6_third.desc).map (fun d => d.parameters.length) = some 1 := by decide +kernel
theorem bw_cX6_layby : Cond.code yX6_layby cX6_layby 2 (some .int) ∈ bt_big := bw_T 1152 (by decide +kernel) (by decide +kernel)
theorem bw_iX6_layby : Cond.instanceMethod yX6_layby ∈ bt_big := bw_T 1150 (by decide +kernel) (by decide +kernel)
theorem bw_sX6_layby : Cond.selects RX6 yX6_layby yX6_layby ∈ bt_big := bw_T 1151 (by decide +kernel) (by decide +kernel)
theorem bw_dX6_layby : yX6_layby.cls ≠ "java/lang/invoke/MethodHandle" ∧ yX6_layby.cls ≠ "java/lang/invoke/VarHandle" ∧ (parseMethodDescriptor yX6_layby.desc).map (fun d => d.parameters.length) = some 1 := by decide +kernel
theorem bw_cX6_fair : Cond.code yX6_fair cX6_fair 6 (some .int) ∈ bt_big := bw_T 1156 (by decide +kernel) (by decide +kernel)
theorem bw_iX6_fair : Cond.instanceMethod yX6_fair ∈ bt_big := bw_T 1154 (by decide +kernel) (by decide +kernel)
theorem bw_sX6_fair : Cond.selects RX6 yX6_fair yX6_fair ∈ bt_big := bw_T 1155 (by decide +kernel) (by decide +kernel)
theorem bw_dX6_fair : yX6_fair.cls ≠ "java/lang/invoke/MethodHandle" ∧ yX6_fair.cls ≠ "java/lang/invoke/VarHandle" ∧ (parseMethodDescriptor yX6_fair.desc).map (fun d => d.parameters.length) = some 1 := by decide +kernel
theorem bw_cX6_need : Cond.code yX6_need cX6_need 3 (some .int) ∈ bt_big := bw_T 1160 (by decide +kernel) (by decide +kernel)
theorem bw_iX6_need : Cond.instanceMethod yX6_need ∈ bt_big := bw_T 1158 (by decide +kernel) (by decide +kernel)
theorem bw_sX6_need : Cond.selects RX6 yX6_need yX6_need ∈ bt_big := bw_T 1159 (by decide +kernel) (by decide +kernel)
theorem bw_dX6_need : yX6_need.cls ≠ "java/lang/invoke/MethodHandle" ∧ yX6_need.cls ≠ "java/lang/invoke/VarHandle" ∧ (parseMethodDescriptor yX6_need.desc).map (fun d => d.parameters.length) = some 1 := by decide +kernel
theorem bw_cX6_firstBehind : Cond.code yX6_firstBehind cX6_firstBehind 2 (some .int) ∈ bt_big := bw_T 1169 (by decide +kernel) (by decide +kernel)
theorem bw_iX6_firstBehind : Cond.instanceMethod yX6_firstBehind ∈ bt_big := bw_T 1168 (by decide +kernel) (by decide +kernel)
theorem bw_sX6_firstBehind : Cond.selects RX6 yX6_firstBehind yX6_firstBehind ∈ bt_big := bt_bigN 53 (by decide +kernel) (by decide +kernel)
theorem bw_dX6_firstBehind : yX6_firstBehind.cls ≠ "java/lang/invoke/MethodHandle" ∧ yX6_firstBehind.cls ≠ "java/lang/invoke/VarHandle" ∧ (parseMethodDescriptor yX6_firstBehind.desc).map (fun d => d.parameters.length) = some 0 := by decide +kernel
theorem bw_cX6_chance : Cond.code yX6_chance cX6_chance 7 (some .int) ∈ bt_big := bw_T 1174 (by decide +kernel) (by decide +kernel)
theorem bw_iX6_chance : Cond.instanceMethod yX6_chance ∈ bt_big := bw_T 1173 (by decide +kernel) (by decide +kernel)
theorem bw_sX6_chance : Cond.selects RX6 yX6_chance yX6_chance ∈ bt_big := bt_bigN 54 (by decide +kernel) (by decide +kernel)
theorem bw_dX6_chance : yX6_chance.cls ≠ "java/lang/invoke/MethodHandle" ∧ yX6_chance.cls ≠ "java/lang/invoke/VarHandle" ∧ (parseMethodDescriptor yX6_chance.desc).map (fun d => d.parameters.length) = some 2 := by decide +kernel
theorem bw_cX6_dare : Cond.code yX6_dare cX6_dare 17 (some .long) ∈ bt_big := bw_T 1164 (by decide +kernel) (by decide +kernel)
theorem bw_iX6_dare : Cond.instanceMethod yX6_dare ∈ bt_big := bw_T 1162 (by decide +kernel) (by decide +kernel)
theorem bw_sX6_dare : Cond.selects RX6 yX6_dare yX6_dare ∈ bt_big := bw_T 1163 (by decide +kernel) (by decide +kernel)
theorem bw_dX6_dare : yX6_dare.cls ≠ "java/lang/invoke/MethodHandle" ∧ yX6_dare.cls ≠ "java/lang/invoke/VarHandle" ∧ (parseMethodDescriptor yX6_dare.desc).map (fun d => d.parameters.length) = some 2 := by decide +kernel
theorem bw_cX6_see : Cond.code yX6_see cX6_see 3 (some .int) ∈ bt_big := bw_T 1178 (by decide +kernel) (by decide +kernel)
theorem bw_iX6_see : Cond.instanceMethod yX6_see ∈ bt_big := bw_T 1176 (by decide +kernel) (by decide +kernel)
theorem bw_sX6_see : Cond.selects RX6 yX6_see yX6_see ∈ bt_big := bw_T 1177 (by decide +kernel) (by decide +kernel)
theorem bw_dX6_see : yX6_see.cls ≠ "java/lang/invoke/MethodHandle" ∧ yX6_see.cls ≠ "java/lang/invoke/VarHandle" ∧ (parseMethodDescriptor yX6_see.desc).map (fun d => d.parameters.length) = some 2 := by decide +kernel
theorem bw_cX6_forget : Cond.code yX6_forget cX6_forget 3 (some .int) ∈ bt_big := bw_T 1183 (by decide +kernel) (by decide +kernel)
theorem bw_iX6_forget : Cond.instanceMethod yX6_forget ∈ bt_big := bw_T 1181 (by decide +kernel) (by decide +kernel)
theorem bw_sX6_forget : Cond.selects RX6 yX6_forget yX6_forget ∈ bt_big := bw_T 1182 (by decide +kernel) (by decide +kernel)
theorem bw_dX6_forget : yX6_forget.cls ≠ "java/lang/invoke/MethodHandle" ∧ yX6_forget.cls ≠ "java/lang/invoke/VarHandle" ∧ (parseMethodDescriptor yX6_forget.desc).map (fun d => d.parameters.length) = some 1 := by decide +kernel
theorem bw_cX6_isAsSeen : Cond.code yX6_isAsSeen cX6_isAsSeen 4 (some .boolean) ∈ bt_big := bw_T 1192 (by decide +kernel) (by decide +kernel)
theorem bw_iX6_isAsSeen : Cond.instanceMethod yX6_isAsSeen ∈ bt_big := bw_T 1191 (by decide +kernel) (by decide +kernel)
theorem bw_sX6_isAsSeen : Cond.selects RX6 yX6_isAsSeen yX6_isAsSeen ∈ bt_big := bt_bigN 55 (by decide +kernel) (by decide +kernel)
theorem bw_dX6_isAsSeen : yX6_isAsSeen.cls ≠ "java/lang/invoke/MethodHandle" ∧ yX6_isAsSeen.cls ≠ "java/lang/invoke/VarHandle" ∧ (parseMethodDescriptor yX6_isAsSeen.desc).map (fun d => d.parameters.length) = some 1 := by decide +kernel
theorem bw_cX6_fits : Cond.code yX6_fits cX6_fits 8 (some .int) ∈ bt_big := bw_T 1187 (by decide +kernel) (by decide +kernel)
theorem bw_iX6_fits : Cond.instanceMethod yX6_fits ∈ bt_big := bw_T 1185 (by decide +kernel) (by decide +kernel)
theorem bw_sX6_fits : Cond.selects RX6 yX6_fits yX6_fits ∈ bt_big := bw_T 1186 (by decide +kernel) (by decide +kernel)
theorem bw_dX6_fits : yX6_fits.cls ≠ "java/lang/invoke/MethodHandle" ∧ yX6_fits.cls ≠ "java/lang/invoke/VarHandle" ∧ (parseMethodDescriptor yX6_fits.desc).map (fun d => d.parameters.length) = some 1 := by decide +kernel
theorem bw_cX6_could : Cond.code yX6_could cX6_could 3 (some .int) ∈ bt_big := bw_T 1196 (by decide +kernel) (by decide +kernel)
theorem bw_iX6_could : Cond.instanceMethod yX6_could ∈ bt_big := bw_T 1194 (by decide +kernel) (by decide +kernel)
theorem bw_sX6_could : Cond.selects RX6 yX6_could yX6_could ∈ bt_big := bw_T 1195 (by decide +kernel) (by decide +kernel)
theorem bw_dX6_could : yX6_could.cls ≠ "java/lang/invoke/MethodHandle" ∧ yX6_could.cls ≠ "java/lang/invoke/VarHandle" ∧ (parseMethodDescriptor yX6_could.desc).map (fun d => d.parameters.length) = some 0 := by decide +kernel
theorem bw_cX6_drift : Cond.code yX6_drift cX6_drift 4 (some .int) ∈ bt_big := bw_T 1200 (by decide +kernel) (by decide +kernel)
theorem bw_iX6_drift : Cond.instanceMethod yX6_drift ∈ bt_big := bw_T 1198 (by decide +kernel) (by decide +kernel)
theorem bw_sX6_drift : Cond.selects RX6 yX6_drift yX6_drift ∈ bt_big := bw_T 1199 (by decide +kernel) (by decide +kernel)
theorem bw_dX6_drift : yX6_drift.cls ≠ "java/lang/invoke/MethodHandle" ∧ yX6_drift.cls ≠ "java/lang/invoke/VarHandle" ∧ (parseMethodDescriptor yX6_drift.desc).map (fun d => d.parameters.length) = some 2 := by decide +kernel
theorem bw_cX6_keep : Cond.code yX6_keep cX6_keep 3 (some .int) ∈ bt_big := bw_T 1205 (by decide +kernel) (by decide +kernel)
theorem bw_iX6_keep : Cond.instanceMethod yX6_keep ∈ bt_big := bw_T 1203 (by decide +kernel) (by decide +kernel)
theorem bw_sX6_keep : Cond.selects RX6 yX6_keep yX6_keep ∈ bt_big := bw_T 1204 (by decide +kernel) (by decide +kernel)
theorem bw_dX6_keep : yX6_keep.cls ≠ "java/lang/invoke/MethodHandle" ∧ yX6_keep.cls ≠ "java/lang/invoke/VarHandle" ∧ (parseMethodDescriptor yX6_keep.desc).map (fun d => d.parameters.length) = some 1 := by decide +kernel
theorem bw_cX6_back : Cond.code yX6_back cX6_back 2 (some .int) ∈ bt_big := bw_T 1209 (by decide +kernel) (by decide +kernel)
theorem bw_iX6_back : Cond.instanceMethod yX6_back ∈ bt_big := bw_T 1207 (by decide +kernel) (by decide +kernel)
theorem bw_sX6_back : Cond.selects RX6 yX6_back yX6_back ∈ bt_big := bw_T 1208 (by decide +kernel) (by decide +kernel)
theorem bw_dX6_back : yX6_back.cls ≠ "java/lang/invoke/MethodHandle" ∧ yX6_back.cls ≠ "java/lang/invoke/VarHandle" ∧ (parseMethodDescriptor yX6_back.desc).map (fun d => d.parameters.length) = some 1 := by decide +kernel
theorem bw_cX6_sheet : Cond.code yX6_sheet cX6_sheet 5 (some .int) ∈ bt_big := bw_T 1213 (by decide +kernel) (by decide +kernel)
theorem bw_iX6_sheet : Cond.instanceMethod yX6_sheet ∈ bt_big := bw_T 1211 (by decide +kernel) (by decide +kernel)
theorem bw_sX6_sheet : Cond.selects RX6 yX6_sheet yX6_sheet ∈ bt_big := bw_T 1212 (by decide +kernel) (by decide +kernel)
theorem bw_dX6_sheet : yX6_sheet.cls ≠ "java/lang/invoke/MethodHandle" ∧ yX6_sheet.cls ≠ "java/lang/invoke/VarHandle" ∧ (parseMethodDescriptor yX6_sheet.desc).map (fun d => d.parameters.length) = some 3 := by decide +kernel
theorem bw_cX6_lay : Cond.code yX6_lay cX6_lay 4 (some .int) ∈ bt_big := bw_T 1217 (by decide +kernel) (by decide +kernel)
theorem bw_iX6_lay : Cond.instanceMethod yX6_lay ∈ bt_big := bw_T 1215 (by decide +kernel) (by decide +kernel)
theorem bw_sX6_lay : Cond.selects RX6 yX6_lay yX6_lay ∈ bt_big := bw_T 1216 (by decide +kernel) (by decide +kernel)
theorem bw_dX6_lay : yX6_lay.cls ≠ "java/lang/invoke/MethodHandle" ∧ yX6_lay.cls ≠ "java/lang/invoke/VarHandle" ∧ (parseMethodDescriptor yX6_lay.desc).map (fun d => d.parameters.length) = some 3 := by decide +kernel
theorem bw_cX6_read : Cond.code yX6_read cX6_read 7 (some .int) ∈ bt_big := bw_T 1221 (by decide +kernel) (by decide +kernel)
theorem bw_iX6_read : Cond.instanceMethod yX6_read ∈ bt_big := bw_T 1219 (by decide +kernel) (by decide +kernel)
theorem bw_sX6_read : Cond.selects RX6 yX6_read yX6_read ∈ bt_big := bw_T 1220 (by decide +kernel) (by decide +kernel)
theorem bw_dX6_read : yX6_read.cls ≠ "java/lang/invoke/MethodHandle" ∧ yX6_read.cls ≠ "java/lang/invoke/VarHandle" ∧ (parseMethodDescriptor yX6_read.desc).map (fun d => d.parameters.length) = some 4 := by decide +kernel
theorem bw_cX6_torn : Cond.code yX6_torn cX6_torn 1 (some .int) ∈ bt_big := bw_T 1226 (by decide +kernel) (by decide +kernel)
theorem bw_iX6_torn : Cond.instanceMethod yX6_torn ∈ bt_big := bw_T 1224 (by decide +kernel) (by decide +kernel)
theorem bw_sX6_torn : Cond.selects RX6 yX6_torn yX6_torn ∈ bt_big := bw_T 1225 (by decide +kernel) (by decide +kernel)
theorem bw_dX6_torn : yX6_torn.cls ≠ "java/lang/invoke/MethodHandle" ∧ yX6_torn.cls ≠ "java/lang/invoke/VarHandle" ∧ (parseMethodDescriptor yX6_torn.desc).map (fun d => d.parameters.length) = some 0 := by decide +kernel
theorem bw_cX6_count : Cond.code yX6_count cX6_count 2 (some .int) ∈ bt_big := bw_T 1230 (by decide +kernel) (by decide +kernel)
theorem bw_iX6_count : Cond.instanceMethod yX6_count ∈ bt_big := bw_T 1228 (by decide +kernel) (by decide +kernel)
theorem bw_sX6_count : Cond.selects RX6 yX6_count yX6_count ∈ bt_big := bw_T 1229 (by decide +kernel) (by decide +kernel)
theorem bw_dX6_count : yX6_count.cls ≠ "java/lang/invoke/MethodHandle" ∧ yX6_count.cls ≠ "java/lang/invoke/VarHandle" ∧ (parseMethodDescriptor yX6_count.desc).map (fun d => d.parameters.length) = some 1 := by decide +kernel
theorem bw_cJ0_length_8abf5 : Cond.code yJ0_length_8abf5 cJ0_length_8abf5 1 (some .int) ∈ bt_big := bw_T 362 (by decide +kernel) (by decide +kernel)
theorem bw_iJ0_length_8abf5 : Cond.instanceMethod yJ0_length_8abf5 ∈ bt_big := bw_T 360 (by decide +kernel) (by decide +kernel)
theorem bw_sJ0_length_8abf5 : Cond.selects RJ0 yJ0_length_8abf5 yJ0_length_8abf5 ∈ bt_big := bw_T 361 (by decide +kernel) (by decide +kernel)
theorem bw_dJ0_length_8abf5 : yJ0_length_8abf5.cls ≠ "java/lang/invoke/MethodHandle" ∧ yJ0_length_8abf5.cls ≠ "java/lang/invoke/VarHandle" ∧ (parseMethodDescriptor yJ0_length_8abf5.desc).map (fun d => d.parameters.length) = some 0 := by decide +kernel
theorem bw_cJ0_charAt_5068e : Cond.code yJ0_charAt_5068e cJ0_charAt_5068e 2 (some .char) ∈ bt_big := bw_T 372 (by decide +kernel) (by decide +kernel)
