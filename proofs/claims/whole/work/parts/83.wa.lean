/-! THE WORDS OF THE CALLS, 1 -/
theorem bw_cX0_add : Cond.code yX0_add cX0_add 3 (some .boolean) ∈ bt_big := bw_T 704 (by decide +kernel) (by decide +kernel)
theorem bw_iX0_add : Cond.instanceMethod yX0_add ∈ bt_big := bw_T 702 (by decide +kernel) (by decide +kernel)
theorem bw_sX0_add : Cond.selects RX0 yX0_add yX0_add ∈ bt_big := bw_T 703 (by decide +kernel) (by decide +kernel)
theorem bw_dX0_add : yX0_add.cls ≠ "java/lang/invoke/MethodHandle" ∧ yX0_add.cls ≠ "java/lang/invoke/VarHandle" ∧ (parseMethodDescriptor yX0_add.desc).map (fun d => d.parameters.length) = some 2 := by decide +kernel
theorem bw_cX4_stretchesLeft : Cond.code yX4_stretchesLeft cX4_stretchesLeft 1 (some .int) ∈ bt_big := bw_T 720 (by decide +kernel) (by decide +kernel)
theorem bw_iX4_stretchesLeft : Cond.instanceMethod yX4_stretchesLeft ∈ bt_big := bw_T 718 (by decide +kernel) (by decide +kernel)
theorem bw_sX4_stretchesLeft : Cond.selects RX4 yX4_stretchesLeft yX4_stretchesLeft ∈ bt_big := bw_T 719 (by decide +kernel) (by decide +kernel)
theorem bw_dX4_stretchesLeft : yX4_stretchesLeft.cls ≠ "java/lang/invoke/MethodHandle" ∧ yX4_stretchesLeft.cls ≠ "java/lang/invoke/VarHandle" ∧ (parseMethodDescriptor yX4_stretchesLeft.desc).map (fun d => d.parameters.length) = some 0 := by decide +kernel
theorem bw_cJ6_numberOfTrailingZeros_0f7a4 : Cond.code yJ6_numberOfTrailingZeros_0f7a4 cJ6_numberOfTrailingZeros_0f7a4 2 (some .int) ∈ bt_big := bw_T 724 (by decide +kernel) (by decide +kernel)
theorem bw_iJ6_numberOfTrailingZeros_0f7a4 : Cond.static yJ6_numberOfTrailingZeros_0f7a4 ∈ bt_big := bw_T 723 (by decide +kernel) (by decide +kernel)
theorem bw_dJ6_numberOfTrailingZeros_0f7a4 : yJ6_numberOfTrailingZeros_0f7a4.cls ≠ "java/lang/invoke/MethodHandle" ∧ yJ6_numberOfTrailingZeros_0f7a4.cls ≠ "java/lang/invoke/VarHandle" ∧ (parseMethodDescriptor yJ6_numberOfTrailingZeros_0f7a4.desc).map (fun d => d.parameters.length) = some 1 := by decide +kernel
theorem bw_cX5_bit : Cond.code yX5_bit cX5_bit 2 (some .int) ∈ bt_big := bw_T 445 (by decide +kernel) (by decide +kernel)
theorem bw_iX5_bit : Cond.static yX5_bit ∈ bt_big := bw_T 444 (by decide +kernel) (by decide +kernel)
theorem bw_dX5_bit : yX5_bit.cls ≠ "java/lang/invoke/MethodHandle" ∧ yX5_bit.cls ≠ "java/lang/invoke/VarHandle" ∧ (parseMethodDescriptor yX5_bit.desc).map (fun d => d.parameters.length) = some 2 := by decide +kernel
theorem bw_cX4_everybody : Cond.code yX4_everybody cX4_everybody 1 (some .int) ∈ bt_big := bw_T 501 (by decide +kernel) (by decide +kernel)
theorem bw_iX4_everybody : Cond.instanceMethod yX4_everybody ∈ bt_big := bw_T 499 (by decide +kernel) (by decide +kernel)
theorem bw_sX4_everybody : Cond.selects RX4 yX4_everybody yX4_everybody ∈ bt_big := bw_T 500 (by decide +kernel) (by decide +kernel)
theorem bw_dX4_everybody : yX4_everybody.cls ≠ "java/lang/invoke/MethodHandle" ∧ yX4_everybody.cls ≠ "java/lang/invoke/VarHandle" ∧ (parseMethodDescriptor yX4_everybody.desc).map (fun d => d.parameters.length) = some 0 := by decide +kernel
theorem bw_cX4_behind : Cond.code yX4_behind cX4_behind 2 (some .int) ∈ bt_big := bw_T 497 (by decide +kernel) (by decide +kernel)
theorem bw_iX4_behind : Cond.instanceMethod yX4_behind ∈ bt_big := bw_T 495 (by decide +kernel) (by decide +kernel)
theorem bw_sX4_behind : Cond.selects RX4 yX4_behind yX4_behind ∈ bt_big := bw_T 496 (by decide +kernel) (by decide +kernel)
theorem bw_dX4_behind : yX4_behind.cls ≠ "java/lang/invoke/MethodHandle" ∧ yX4_behind.cls ≠ "java/lang/invoke/VarHandle" ∧ (parseMethodDescriptor yX4_behind.desc).map (fun d => d.parameters.length) = some 1 := by decide +kernel
theorem bw_cJ6_bitCount_0f7a4 : Cond.code yJ6_bitCount_0f7a4 cJ6_bitCount_0f7a4 1 (some .int) ∈ bt_big := bw_T 504 (by decide +kernel) (by decide +kernel)
theorem bw_iJ6_bitCount_0f7a4 : Cond.static yJ6_bitCount_0f7a4 ∈ bt_big := bw_T 503 (by decide +kernel) (by decide +kernel)
theorem bw_dJ6_bitCount_0f7a4 : yJ6_bitCount_0f7a4.cls ≠ "java/lang/invoke/MethodHandle" ∧ yJ6_bitCount_0f7a4.cls ≠ "java/lang/invoke/VarHandle" ∧ (parseMethodDescriptor yJ6_bitCount_0f7a4.desc).map (fun d => d.parameters.length) = some 1 := by decide +kernel
theorem bw_cJ9_max_7cf53 : Cond.code yJ9_max_7cf53 cJ9_max_7cf53 2 (some .int) ∈ bt_big := bw_T 518 (by decide +kernel) (by decide +kernel)
theorem bw_iJ9_max_7cf53 : Cond.static yJ9_max_7cf53 ∈ bt_big := bw_T 517 (by decide +kernel) (by decide +kernel)
theorem bw_dJ9_max_7cf53 : yJ9_max_7cf53.cls ≠ "java/lang/invoke/MethodHandle" ∧ yJ9_max_7cf53.cls ≠ "java/lang/invoke/VarHandle" ∧ (parseMethodDescriptor yJ9_max_7cf53.desc).map (fun d => d.parameters.length) = some 2 := by decide +kernel
theorem bw_cJ9_min_7cf53 : Cond.code yJ9_min_7cf53 cJ9_min_7cf53 2 (some .int) ∈ bt_big := bw_T 521 (by decide +kernel) (by decide +kernel)
theorem bw_iJ9_min_7cf53 : Cond.static yJ9_min_7cf53 ∈ bt_big := bw_T 520 (by decide +kernel) (by decide +kernel)
theorem bw_dJ9_min_7cf53 : yJ9_min_7cf53.cls ≠ "java/lang/invoke/MethodHandle" ∧ yJ9_min_7cf53.cls ≠ "java/lang/invoke/VarHandle" ∧ (parseMethodDescriptor yJ9_min_7cf53.desc).map (fun d => d.parameters.length) = some 2 := by decide +kernel
theorem bw_cX4_ofUse : Cond.code yX4_ofUse cX4_ofUse 4 (some .int) ∈ bt_big := bw_T 515 (by decide +kernel) (by decide +kernel)
theorem bw_iX4_ofUse : Cond.instanceMethod yX4_ofUse ∈ bt_big := bw_T 513 (by decide +kernel) (by decide +kernel)
theorem bw_sX4_ofUse : Cond.selects RX4 yX4_ofUse yX4_ofUse ∈ bt_big := bw_T 514 (by decide +kernel) (by decide +kernel)
theorem bw_dX4_ofUse : yX4_ofUse.cls ≠ "java/lang/invoke/MethodHandle" ∧ yX4_ofUse.cls ≠ "java/lang/invoke/VarHandle" ∧ (parseMethodDescriptor yX4_ofUse.desc).map (fun d => d.parameters.length) = some 2 := by decide +kernel
theorem bw_cX4_passes : Cond.code yX4_passes cX4_passes 6 (some .boolean) ∈ bt_big := bw_T 572 (by decide +kernel) (by decide +kernel)
theorem bw_iX4_passes : Cond.instanceMethod yX4_passes ∈ bt_big := bw_T 570 (by decide +kernel) (by decide +kernel)
theorem bw_sX4_passes : Cond.selects RX4 yX4_passes yX4_passes ∈ bt_big := bw_T 571 (by decide +kernel) (by decide +kernel)
theorem bw_dX4_passes : yX4_passes.cls ≠ "java/lang/invoke/MethodHandle" ∧ yX4_passes.cls ≠ "java/lang/invoke/VarHandle" ∧ (parseMethodDescriptor yX4_passes.desc).map (fun d => d.parameters.length) = some 4 := by decide +kernel
theorem bw_cX4_comers : Cond.code yX4_comers cX4_comers 10 (some .int) ∈ bt_big := bw_T 567 (by decide +kernel) (by decide +kernel)
theorem bw_iX4_comers : Cond.instanceMethod yX4_comers ∈ bt_big := bw_T 565 (by decide +kernel) (by decide +kernel)
theorem bw_sX4_comers : Cond.selects RX4 yX4_comers yX4_comers ∈ bt_big := bw_T 566 (by decide +kernel) (by decide +kernel)
theorem bw_dX4_comers : yX4_comers.cls ≠ "java/lang/invoke/MethodHandle" ∧ yX4_comers.cls ≠ "java/lang/invoke/VarHandle" ∧ (parseMethodDescriptor yX4_comers.desc).map (fun d => d.parameters.length) = some 3 := by decide +kernel
theorem bw_cX4_minutes : Cond.code yX4_minutes cX4_minutes 4 (some .int) ∈ bt_big := bw_T 576 (by decide +kernel) (by decide +kernel)
theorem bw_iX4_minutes : Cond.instanceMethod yX4_minutes ∈ bt_big := bw_T 574 (by decide +kernel) (by decide +kernel)
theorem bw_sX4_minutes : Cond.selects RX4 yX4_minutes yX4_minutes ∈ bt_big := bw_T 575 (by decide +kernel) (by decide +kernel)
theorem bw_dX4_minutes : yX4_minutes.cls ≠ "java/lang/invoke/MethodHandle" ∧ yX4_minutes.cls ≠ "java/lang/invoke/VarHandle" ∧ (parseMethodDescriptor yX4_minutes.desc).map (fun d => d.parameters.length) = some 3 := by decide +kernel
theorem bw_cX0_goDown : Cond.code yX0_goDown cX0_goDown 7 none ∈ bt_big := bw_T 730 (by decide +kernel) (by decide +kernel)
theorem bw_iX0_goDown : Cond.instanceMethod yX0_goDown ∈ bt_big := bw_T 729 (by decide +kernel) (by decide +kernel)
theorem bw_sX0_goDown : Cond.selects RX0 yX0_goDown yX0_goDown ∈ bt_big := bt_bigN 17 (by decide +kernel) (by decide +kernel)
theorem bw_dX0_goDown : yX0_goDown.cls ≠ "java/lang/invoke/MethodHandle" ∧ yX0_goDown.cls ≠ "java/lang/invoke/VarHandle" ∧ (parseMethodDescriptor yX0_goDown.desc).map (fun d => d.parameters.length) = some 3 := by decide +kernel
theorem bw_cX0_judge : Cond.code yX0_judge cX0_judge 5 none ∈ bt_big := bw_T 736 (by decide +kernel) (by decide +kernel)
theorem bw_iX0_judge : Cond.instanceMethod yX0_judge ∈ bt_big := bw_T 735 (by decide +kernel) (by decide +kernel)
theorem bw_sX0_judge : Cond.selects RX0 yX0_judge yX0_judge ∈ bt_big := bt_bigN 18 (by decide +kernel) (by decide +kernel)
theorem bw_dX0_judge : yX0_judge.cls ≠ "java/lang/invoke/MethodHandle" ∧ yX0_judge.cls ≠ "java/lang/invoke/VarHandle" ∧ (parseMethodDescriptor yX0_judge.desc).map (fun d => d.parameters.length) = some 3 := by decide +kernel
theorem bw_cX0_tryAllSets : Cond.code yX0_tryAllSets cX0_tryAllSets 6 none ∈ bt_big := bw_T 716 (by decide +kernel) (by decide +kernel)
theorem bw_iX0_tryAllSets : Cond.instanceMethod yX0_tryAllSets ∈ bt_big := bw_T 714 (by decide +kernel) (by decide +kernel)
theorem bw_sX0_tryAllSets : Cond.selects RX0 yX0_tryAllSets yX0_tryAllSets ∈ bt_big := bw_T 715 (by decide +kernel) (by decide +kernel)
theorem bw_dX0_tryAllSets : yX0_tryAllSets.cls ≠ "java/lang/invoke/MethodHandle" ∧ yX0_tryAllSets.cls ≠ "java/lang/invoke/VarHandle" ∧ (parseMethodDescriptor yX0_tryAllSets.desc).map (fun d => d.parameters.length) = some 1 := by decide +kernel
theorem bw_cX1_begin : Cond.code yX1_begin cX1_begin 3 none ∈ bt_big := bw_T 617 (by decide +kernel) (by decide +kernel)
theorem bw_iX1_begin : Cond.instanceMethod yX1_begin ∈ bt_big := bw_T 616 (by decide +kernel) (by decide +kernel)
theorem bw_sX1_begin : Cond.selects RX1 yX1_begin yX1_begin ∈ bt_big := bt_bigN 15 (by decide +kernel) (by decide +kernel)
theorem bw_dX1_begin : yX1_begin.cls ≠ "java/lang/invoke/MethodHandle" ∧ yX1_begin.cls ≠ "java/lang/invoke/VarHandle" ∧ (parseMethodDescriptor yX1_begin.desc).map (fun d => d.parameters.length) = some 1 := by decide +kernel
theorem bw_cX1_spreadOne : Cond.code yX1_spreadOne cX1_spreadOne 5 none ∈ bt_big := bw_T 621 (by decide +kernel) (by decide +kernel)
theorem bw_iX1_spreadOne : Cond.instanceMethod yX1_spreadOne ∈ bt_big := bw_T 619 (by decide +kernel) (by decide +kernel)
theorem bw_sX1_spreadOne : Cond.selects RX1 yX1_spreadOne yX1_spreadOne ∈ bt_big := bw_T 620 (by decide +kernel) (by decide +kernel)
theorem bw_dX1_spreadOne : yX1_spreadOne.cls ≠ "java/lang/invoke/MethodHandle" ∧ yX1_spreadOne.cls ≠ "java/lang/invoke/VarHandle" ∧ (parseMethodDescriptor yX1_spreadOne.desc).map (fun d => d.parameters.length) = some 2 := by decide +kernel
theorem bw_cX1_spread : Cond.code yX1_spread cX1_spread 4 none ∈ bt_big := bw_T 613 (by decide +kernel) (by decide +kernel)
theorem bw_iX1_spread : Cond.instanceMethod yX1_spread ∈ bt_big := bw_T 611 (by decide +kernel) (by decide +kernel)
theorem bw_sX1_spread : Cond.selects RX1 yX1_spread yX1_spread ∈ bt_big := bw_T 612 (by decide +kernel) (by decide +kernel)
theorem bw_dX1_spread : yX1_spread.cls ≠ "java/lang/invoke/MethodHandle" ∧ yX1_spread.cls ≠ "java/lang/invoke/VarHandle" ∧ (parseMethodDescriptor yX1_spread.desc).map (fun d => d.parameters.length) = some 2 := by decide +kernel
theorem bw_cX1_weightOfGone : Cond.code yX1_weightOfGone cX1_weightOfGone 5 (some .long) ∈ bt_big := bw_T 628 (by decide +kernel) (by decide +kernel)
theorem bw_iX1_weightOfGone : Cond.instanceMethod yX1_weightOfGone ∈ bt_big := bw_T 626 (by decide +kernel) (by decide +kernel)
theorem bw_sX1_weightOfGone : Cond.selects RX1 yX1_weightOfGone yX1_weightOfGone ∈ bt_big := bw_T 627 (by decide +kernel) (by decide +kernel)
theorem bw_dX1_weightOfGone : yX1_weightOfGone.cls ≠ "java/lang/invoke/MethodHandle" ∧ yX1_weightOfGone.cls ≠ "java/lang/invoke/VarHandle" ∧ (parseMethodDescriptor yX1_weightOfGone.desc).map (fun d => d.parameters.length) = some 1 := by decide +kernel
theorem bw_cX1_weightedTime : Cond.code yX1_weightedTime cX1_weightedTime 8 (some .long) ∈ bt_big := bw_T 640 (by decide +kernel) (by decide +kernel)
theorem bw_iX1_weightedTime : Cond.instanceMethod yX1_weightedTime ∈ bt_big := bw_T 638 (by decide +kernel) (by decide +kernel)
theorem bw_sX1_weightedTime : Cond.selects RX1 yX1_weightedTime yX1_weightedTime ∈ bt_big := bw_T 639 (by decide +kernel) (by decide +kernel)
theorem bw_dX1_weightedTime : yX1_weightedTime.cls ≠ "java/lang/invoke/MethodHandle" ∧ yX1_weightedTime.cls ≠ "java/lang/invoke/VarHandle" ∧ (parseMethodDescriptor yX1_weightedTime.desc).map (fun d => d.parameters.length) = some 2 := by decide +kernel
theorem bw_cX1_tenthsToPass : Cond.code yX1_tenthsToPass cX1_tenthsToPass 3 (some .int) ∈ bt_big := bw_T 691 (by decide +kernel) (by decide +kernel)
theorem bw_iX1_tenthsToPass : Cond.static yX1_tenthsToPass ∈ bt_big := bw_T 690 (by decide +kernel) (by decide +kernel)
theorem bw_dX1_tenthsToPass : yX1_tenthsToPass.cls ≠ "java/lang/invoke/MethodHandle" ∧ yX1_tenthsToPass.cls ≠ "java/lang/invoke/VarHandle" ∧ (parseMethodDescriptor yX1_tenthsToPass.desc).map (fun d => d.parameters.length) = some 3 := by decide +kernel
theorem bw_cJ9_max_f86c9 : Cond.code yJ9_max_f86c9 cJ9_max_f86c9 4 (some .long) ∈ bt_big := bw_T 696 (by decide +kernel) (by decide +kernel)
theorem bw_iJ9_max_f86c9 : Cond.static yJ9_max_f86c9 ∈ bt_big := bw_T 695 (by decide +kernel) (by decide +kernel)
theorem bw_dJ9_max_f86c9 : yJ9_max_f86c9.cls ≠ "java/lang/invoke/MethodHandle" ∧ yJ9_max_f86c9.cls ≠ "java/lang/invoke/VarHandle" ∧ (parseMethodDescriptor yJ9_max_f86c9.desc).map (fun d => d.parameters.length) = some 2 := by decide +kernel
theorem bw_cX1_bestDaring : Cond.code yX1_bestDaring cX1_bestDaring 13 (some .long) ∈ bt_big := bw_T 688 (by decide +kernel) (by decide +kernel)
theorem bw_iX1_bestDaring : Cond.instanceMethod yX1_bestDaring ∈ bt_big := bw_T 686 (by decide +kernel) (by decide +kernel)
theorem bw_sX1_bestDaring : Cond.selects RX1 yX1_bestDaring yX1_bestDaring ∈ bt_big := bw_T 687 (by decide +kernel) (by decide +kernel)
theorem bw_dX1_bestDaring : yX1_bestDaring.cls ≠ "java/lang/invoke/MethodHandle" ∧ yX1_bestDaring.cls ≠ "java/lang/invoke/VarHandle" ∧ (parseMethodDescriptor yX1_bestDaring.desc).map (fun d => d.parameters.length) = some 3 := by decide +kernel
theorem bw_cX2_begin : Cond.code yX2_begin cX2_begin 4 none ∈ bt_big := bw_T 770 (by decide +kernel) (by decide +kernel)
theorem bw_iX2_begin : Cond.instanceMethod yX2_begin ∈ bt_big := bw_T 768 (by decide +kernel) (by decide +kernel)
theorem bw_sX2_begin : Cond.selects RX2 yX2_begin yX2_begin ∈ bt_big := bw_T 769 (by decide +kernel) (by decide +kernel)
theorem bw_dX2_begin : yX2_begin.cls ≠ "java/lang/invoke/MethodHandle" ∧ yX2_begin.cls ≠ "java/lang/invoke/VarHandle" ∧ (parseMethodDescriptor yX2_begin.desc).map (fun d => d.parameters.length) = some 2 := by decide +kernel
theorem bw_cX5_within : Cond.code yX5_within cX5_within 3 (some .boolean) ∈ bt_big := bw_T 314 (by decide +kernel) (by decide +kernel)
theorem bw_iX5_within : Cond.static yX5_within ∈ bt_big := bw_T 313 (by decide +kernel) (by decide +kernel)
theorem bw_dX5_within : yX5_within.cls ≠ "java/lang/invoke/MethodHandle" ∧ yX5_within.cls ≠ "java/lang/invoke/VarHandle" ∧ (parseMethodDescriptor yX5_within.desc).map (fun d => d.parameters.length) = some 3 := by decide +kernel
theorem bw_cX2_faultAt : Cond.code yX2_faultAt cX2_faultAt 3 (some .int) ∈ bt_big := bw_T 778 (by decide +kernel) (by decide +kernel)
theorem bw_iX2_faultAt : Cond.instanceMethod yX2_faultAt ∈ bt_big := bw_T 776 (by decide +kernel) (by decide +kernel)
theorem bw_sX2_faultAt : Cond.selects RX2 yX2_faultAt yX2_faultAt ∈ bt_big := bw_T 777 (by decide +kernel) (by decide +kernel)
theorem bw_dX2_faultAt : yX2_faultAt.cls ≠ "java/lang/invoke/MethodHandle" ∧ yX2_faultAt.cls ≠ "java/lang/invoke/VarHandle" ∧ (parseMethodDescriptor yX2_faultAt.desc).map (fun d => d.parameters.length) = some 2 := by decide +kernel
theorem bw_cX2_put : Cond.code yX2_put cX2_put 3 none ∈ bt_big := bw_T 783 (by decide +kernel) (by decide +kernel)
theorem bw_iX2_put : Cond.instanceMethod yX2_put ∈ bt_big := bw_T 781 (by decide +kernel) (by decide +kernel)
theorem bw_sX2_put : Cond.selects RX2 yX2_put yX2_put ∈ bt_big := bw_T 782 (by decide +kernel) (by decide +kernel)
theorem bw_dX2_put : yX2_put.cls ≠ "java/lang/invoke/MethodHandle" ∧ yX2_put.cls ≠ "java/lang/invoke/VarHandle" ∧ (parseMethodDescriptor yX2_put.desc).map (fun d => d.parameters.length) = some 2 := by decide +kernel
theorem bw_cX3_add : Cond.code yX3_add cX3_add 2 (some .boolean) ∈ bt_big := bw_T 318 (by decide +kernel) (by decide +kernel)
theorem bw_iX3_add : Cond.instanceMethod yX3_add ∈ bt_big := bw_T 316 (by decide +kernel) (by decide +kernel)
theorem bw_sX3_add : Cond.selects RX3 yX3_add yX3_add ∈ bt_big := bw_T 317 (by decide +kernel) (by decide +kernel)
theorem bw_dX3_add : yX3_add.cls ≠ "java/lang/invoke/MethodHandle" ∧ yX3_add.cls ≠ "java/lang/invoke/VarHandle" ∧ (parseMethodDescriptor yX3_add.desc).map (fun d => d.parameters.length) = some 1 := by decide +kernel
theorem bw_cX4_clear : Cond.code yX4_clear cX4_clear 2 none ∈ bt_big := bw_T 334 (by decide +kernel) (by decide +kernel)
theorem bw_iX4_clear : Cond.instanceMethod yX4_clear ∈ bt_big := bw_T 332 (by decide +kernel) (by decide +kernel)
theorem bw_sX4_clear : Cond.selects RX4 yX4_clear yX4_clear ∈ bt_big := bw_T 333 (by decide +kernel) (by decide +kernel)
theorem bw_dX4_clear : yX4_clear.cls ≠ "java/lang/invoke/MethodHandle" ∧ yX4_clear.cls ≠ "java/lang/invoke/VarHandle" ∧ (parseMethodDescriptor yX4_clear.desc).map (fun d => d.parameters.length) = some 0 := by decide +kernel
theorem bw_cX3_isLetter : Cond.code yX3_isLetter cX3_isLetter 1 (some .boolean) ∈ bt_big := bw_T 341 (by decide +kernel) (by decide +kernel)
theorem bw_iX3_isLetter : Cond.static yX3_isLetter ∈ bt_big := bw_T 340 (by decide +kernel) (by decide +kernel)
theorem bw_dX3_isLetter : yX3_isLetter.cls ≠ "java/lang/invoke/MethodHandle" ∧ yX3_isLetter.cls ≠ "java/lang/invoke/VarHandle" ∧ (parseMethodDescriptor yX3_isLetter.desc).map (fun d => d.parameters.length) = some 1 := by decide +kernel
theorem bw_cX3_isFigure : Cond.code yX3_isFigure cX3_isFigure 1 (some .boolean) ∈ bt_big := bw_T 344 (by decide +kernel) (by decide +kernel)
theorem bw_iX3_isFigure : Cond.static yX3_isFigure ∈ bt_big := bw_T 343 (by decide +kernel) (by decide +kernel)
theorem bw_dX3_isFigure : yX3_isFigure.cls ≠ "java/lang/invoke/MethodHandle" ∧ yX3_isFigure.cls ≠ "java/lang/invoke/VarHandle" ∧ (parseMethodDescriptor yX3_isFigure.desc).map (fun d => d.parameters.length) = some 1 := by decide +kernel
theorem bw_cX3_refuse : Cond.code yX3_refuse cX3_refuse 3 (some .boolean) ∈ bt_big := bw_T 349 (by decide +kernel) (by decide +kernel)
theorem bw_iX3_refuse : Cond.instanceMethod yX3_refuse ∈ bt_big := bw_T 348 (by decide +kernel) (by decide +kernel)
theorem bw_sX3_refuse : Cond.selects RX3 yX3_refuse yX3_refuse ∈ bt_big := bt_bigN 1 (by decide +kernel) (by decide +kernel)
theorem bw_dX3_refuse : yX3_refuse.cls ≠ "java/lang/invoke/MethodHandle" ∧ yX3_refuse.cls ≠ "java/lang/invoke/VarHandle" ∧ (parseMethodDescriptor yX3_refuse.desc).map (fun d => d.parameters.length) = some 2 := by decide +kernel
theorem bw_cX3_advance : Cond.code yX3_advance cX3_advance 2 (some .boolean) ∈ bt_big := bw_T 338 (by decide +kernel) (by decide +kernel)
theorem bw_iX3_advance : Cond.instanceMethod yX3_advance ∈ bt_big := bw_T 337 (by decide +kernel) (by decide +kernel)
theorem bw_sX3_advance : Cond.selects RX3 yX3_advance yX3_advance ∈ bt_big := bt_bigN 0 (by decide +kernel) (by decide +kernel)
theorem bw_dX3_advance : yX3_advance.cls ≠ "java/lang/invoke/MethodHandle" ∧ yX3_advance.cls ≠ "java/lang/invoke/VarHandle" ∧ (parseMethodDescriptor yX3_advance.desc).map (fun d => d.parameters.length) = some 0 := by decide +kernel
theorem bw_cX3_says : Cond.code yX3_says cX3_says 3 (some .boolean) ∈ bt_big := bw_T 358 (by decide +kernel) (by decide +kernel)
theorem bw_iX3_says : Cond.instanceMethod yX3_says ∈ bt_big := bw_T 357 (by decide +kernel) (by decide +kernel)
theorem bw_sX3_says : Cond.selects RX3 yX3_says yX3_says ∈ bt_big := bt_bigN 3 (by decide +kernel) (by decide +kernel)
theorem bw_dX3_says : yX3_says.cls ≠ "java/lang/invoke/MethodHandle" ∧ yX3_says.cls ≠ "java/lang/invoke/VarHandle" ∧ (parseMethodDescriptor yX3_says.desc).map (fun d => d.parameters.length) = some 1 := by decide +kernel
theorem bw_cX3_numbered : Cond.code yX3_numbered cX3_numbered 3 (some .boolean) ∈ bt_big := bw_T 414 (by decide +kernel) (by decide +kernel)
theorem bw_iX3_numbered : Cond.instanceMethod yX3_numbered ∈ bt_big := bw_T 413 (by decide +kernel) (by decide +kernel)
theorem bw_sX3_numbered : Cond.selects RX3 yX3_numbered yX3_numbered ∈ bt_big := bt_bigN 5 (by decide +kernel) (by decide +kernel)
theorem bw_dX3_numbered : yX3_numbered.cls ≠ "java/lang/invoke/MethodHandle" ∧ yX3_numbered.cls ≠ "java/lang/invoke/VarHandle" ∧ (parseMethodDescriptor yX3_numbered.desc).map (fun d => d.parameters.length) = some 2 := by decide +kernel
theorem bw_cX3_stops : Cond.code yX3_stops cX3_stops 1 (some .boolean) ∈ bt_big := bw_T 418 (by decide +kernel) (by decide +kernel)
theorem bw_iX3_stops : Cond.instanceMethod yX3_stops ∈ bt_big := bw_T 417 (by decide +kernel) (by decide +kernel)
theorem bw_sX3_stops : Cond.selects RX3 yX3_stops yX3_stops ∈ bt_big := bt_bigN 6 (by decide +kernel) (by decide +kernel)
theorem bw_dX3_stops : yX3_stops.cls ≠ "java/lang/invoke/MethodHandle" ∧ yX3_stops.cls ≠ "java/lang/invoke/VarHandle" ∧ (parseMethodDescriptor yX3_stops.desc).map (fun d => d.parameters.length) = some 0 := by decide +kernel
theorem bw_cX3_tellRoad : Cond.code yX3_tellRoad cX3_tellRoad 2 (some .boolean) ∈ bt_big := bw_T 410 (by decide +kernel) (by decide +kernel)
theorem bw_iX3_tellRoad : Cond.instanceMethod yX3_tellRoad ∈ bt_big := bw_T 409 (by decide +kernel) (by decide +kernel)
theorem bw_sX3_tellRoad : Cond.selects RX3 yX3_tellRoad yX3_tellRoad ∈ bt_big := bt_bigN 4 (by decide +kernel) (by decide +kernel)
theorem bw_dX3_tellRoad : yX3_tellRoad.cls ≠ "java/lang/invoke/MethodHandle" ∧ yX3_tellRoad.cls ≠ "java/lang/invoke/VarHandle" ∧ (parseMethodDescriptor yX3_tellRoad.desc).map (fun d => d.parameters.length) = some 0 := by decide +kernel
theorem bw_cX3_kindSaid : Cond.code yX3_kindSaid cX3_kindSaid 1 (some .int) ∈ bt_big := bw_T 427 (by decide +kernel) (by decide +kernel)
theorem bw_iX3_kindSaid : Cond.instanceMethod yX3_kindSaid ∈ bt_big := bw_T 426 (by decide +kernel) (by decide +kernel)
theorem bw_sX3_kindSaid : Cond.selects RX3 yX3_kindSaid yX3_kindSaid ∈ bt_big := bt_bigN 8 (by decide +kernel) (by decide +kernel)
theorem bw_dX3_kindSaid : yX3_kindSaid.cls ≠ "java/lang/invoke/MethodHandle" ∧ yX3_kindSaid.cls ≠ "java/lang/invoke/VarHandle" ∧ (parseMethodDescriptor yX3_kindSaid.desc).map (fun d => d.parameters.length) = some 0 := by decide +kernel
theorem bw_cX3_tellCar : Cond.code yX3_tellCar cX3_tellCar 3 (some .boolean) ∈ bt_big := bw_T 423 (by decide +kernel) (by decide +kernel)
theorem bw_iX3_tellCar : Cond.instanceMethod yX3_tellCar ∈ bt_big := bw_T 422 (by decide +kernel) (by decide +kernel)
theorem bw_sX3_tellCar : Cond.selects RX3 yX3_tellCar yX3_tellCar ∈ bt_big := bt_bigN 7 (by decide +kernel) (by decide +kernel)
theorem bw_dX3_tellCar : yX3_tellCar.cls ≠ "java/lang/invoke/MethodHandle" ∧ yX3_tellCar.cls ≠ "java/lang/invoke/VarHandle" ∧ (parseMethodDescriptor yX3_tellCar.desc).map (fun d => d.parameters.length) = some 0 := by decide +kernel
theorem bw_cX3_tellSlow : Cond.code yX3_tellSlow cX3_tellSlow 1 (some .boolean) ∈ bt_big := bw_T 437 (by decide +kernel) (by decide +kernel)
theorem bw_iX3_tellSlow : Cond.instanceMethod yX3_tellSlow ∈ bt_big := bw_T 436 (by decide +kernel) (by decide +kernel)
theorem bw_sX3_tellSlow : Cond.selects RX3 yX3_tellSlow yX3_tellSlow ∈ bt_big := bt_bigN 9 (by decide +kernel) (by decide +kernel)
theorem bw_dX3_tellSlow : yX3_tellSlow.cls ≠ "java/lang/invoke/MethodHandle" ∧ yX3_tellSlow.cls ≠ "java/lang/invoke/VarHandle" ∧ (parseMethodDescriptor yX3_tellSlow.desc).map (fun d => d.parameters.length) = some 0 := by decide +kernel
theorem bw_cX3_stretchMore : Cond.code yX3_stretchMore cX3_stretchMore 2 (some .int) ∈ bt_big := bw_T 442 (by decide +kernel) (by decide +kernel)
theorem bw_iX3_stretchMore : Cond.instanceMethod yX3_stretchMore ∈ bt_big := bw_T 441 (by decide +kernel) (by decide +kernel)
theorem bw_sX3_stretchMore : Cond.selects RX3 yX3_stretchMore yX3_stretchMore ∈ bt_big := bt_bigN 10 (by decide +kernel) (by decide +kernel)
theorem bw_dX3_stretchMore : yX3_stretchMore.cls ≠ "java/lang/invoke/MethodHandle" ∧ yX3_stretchMore.cls ≠ "java/lang/invoke/VarHandle" ∧ (parseMethodDescriptor yX3_stretchMore.desc).map (fun d => d.parameters.length) = some 1 := by decide +kernel
theorem bw_cX3_tellOdds : Cond.code yX3_tellOdds cX3_tellOdds 2 (some .boolean) ∈ bt_big := bw_T 449 (by decide +kernel) (by decide +kernel)
theorem bw_iX3_tellOdds : Cond.instanceMethod yX3_tellOdds ∈ bt_big := bw_T 448 (by decide +kernel) (by decide +kernel)
theorem bw_sX3_tellOdds : Cond.selects RX3 yX3_tellOdds yX3_tellOdds ∈ bt_big := bt_bigN 11 (by decide +kernel) (by decide +kernel)
theorem bw_dX3_tellOdds : yX3_tellOdds.cls ≠ "java/lang/invoke/MethodHandle" ∧ yX3_tellOdds.cls ≠ "java/lang/invoke/VarHandle" ∧ (parseMethodDescriptor yX3_tellOdds.desc).map (fun d => d.parameters.length) = some 1 := by decide +kernel
theorem bw_cX3_tellLine : Cond.code yX3_tellLine cX3_tellLine 1 (some .boolean) ∈ bt_big := bw_T 353 (by decide +kernel) (by decide +kernel)
theorem bw_iX3_tellLine : Cond.instanceMethod yX3_tellLine ∈ bt_big := bw_T 352 (by decide +kernel) (by decide +kernel)
theorem bw_sX3_tellLine : Cond.selects RX3 yX3_tellLine yX3_tellLine ∈ bt_big := bt_bigN 2 (by decide +kernel) (by decide +kernel)
theorem bw_dX3_tellLine : yX3_tellLine.cls ≠ "java/lang/invoke/MethodHandle" ∧ yX3_tellLine.cls ≠ "java/lang/invoke/VarHandle" ∧ (parseMethodDescriptor yX3_tellLine.desc).map (fun d => d.parameters.length) = some 0 := by decide +kernel
theorem bw_cX3_checkStretches : Cond.code yX3_checkStretches cX3_checkStretches 2 none ∈ bt_big := bw_T 456 (by decide +kernel) (by decide +kernel)
theorem bw_iX3_checkStretches : Cond.instanceMethod yX3_checkStretches ∈ bt_big := bw_T 455 (by decide +kernel) (by decide +kernel)
theorem bw_sX3_checkStretches : Cond.selects RX3 yX3_checkStretches yX3_checkStretches ∈ bt_big := bt_bigN 12 (by decide +kernel) (by decide +kernel)
theorem bw_dX3_checkStretches : yX3_checkStretches.cls ≠ "java/lang/invoke/MethodHandle" ∧ yX3_checkStretches.cls ≠ "java/lang/invoke/VarHandle" ∧ (parseMethodDescriptor yX3_checkStretches.desc).map (fun d => d.parameters.length) = some 0 := by decide +kernel
theorem bw_cX3_tellAll : Cond.code yX3_tellAll cX3_tellAll 2 (some .int) ∈ bt_big := bw_T 330 (by decide +kernel) (by decide +kernel)
theorem bw_iX3_tellAll : Cond.instanceMethod yX3_tellAll ∈ bt_big := bw_T 328 (by decide +kernel) (by decide +kernel)
theorem bw_sX3_tellAll : Cond.selects RX3 yX3_tellAll yX3_tellAll ∈ bt_big := bw_T 329 (by decide +kernel) (by decide +kernel)
theorem bw_dX3_tellAll : yX3_tellAll.cls ≠ "java/lang/invoke/MethodHandle" ∧ yX3_tellAll.cls ≠ "java/lang/invoke/VarHandle" ∧ (parseMethodDescriptor yX3_tellAll.desc).map (fun d => d.parameters.length) = some 0 := by decide +kernel
theorem bw_cX4_takeFrom : Cond.code yX4_takeFrom cX4_takeFrom 2 none ∈ bt_big := bw_T 460 (by decide +kernel) (by decide +kernel)
theorem bw_iX4_takeFrom : Cond.instanceMethod yX4_takeFrom ∈ bt_big := bw_T 458 (by decide +kernel) (by decide +kernel)
theorem bw_sX4_takeFrom : Cond.selects RX4 yX4_takeFrom yX4_takeFrom ∈ bt_big := bw_T 459 (by decide +kernel) (by decide +kernel)
theorem bw_dX4_takeFrom : yX4_takeFrom.cls ≠ "java/lang/invoke/MethodHandle" ∧ yX4_takeFrom.cls ≠ "java/lang/invoke/VarHandle" ∧ (parseMethodDescriptor yX4_takeFrom.desc).map (fun d => d.parameters.length) = some 1 := by decide +kernel
theorem bw_cX4_firstBehind : Cond.code yX4_firstBehind cX4_firstBehind 2 (some .int) ∈ bt_big := bw_T 683 (by decide +kernel) (by decide +kernel)
theorem bw_iX4_firstBehind : Cond.instanceMethod yX4_firstBehind ∈ bt_big := bw_T 681 (by decide +kernel) (by decide +kernel)
theorem bw_sX4_firstBehind : Cond.selects RX4 yX4_firstBehind yX4_firstBehind ∈ bt_big := bw_T 682 (by decide +kernel) (by decide +kernel)
theorem bw_dX4_firstBehind : yX4_firstBehind.cls ≠ "java/lang/invoke/MethodHandle" ∧ yX4_firstBehind.cls ≠ "java/lang/invoke/VarHandle" ∧ (parseMethodDescriptor yX4_firstBehind.desc).map (fun d => d.parameters.length) = some 0 := by decide +kernel
theorem bw_cX4_behindAheadOf : Cond.code yX4_behindAheadOf cX4_behindAheadOf 2 (some .int) ∈ bt_big := bw_T 492 (by decide +kernel) (by decide +kernel)
theorem bw_iX4_behindAheadOf : Cond.instanceMethod yX4_behindAheadOf ∈ bt_big := bw_T 490 (by decide +kernel) (by decide +kernel)
theorem bw_sX4_behindAheadOf : Cond.selects RX4 yX4_behindAheadOf yX4_behindAheadOf ∈ bt_big := bw_T 491 (by decide +kernel) (by decide +kernel)
theorem bw_dX4_behindAheadOf : yX4_behindAheadOf.cls ≠ "java/lang/invoke/MethodHandle" ∧ yX4_behindAheadOf.cls ≠ "java/lang/invoke/VarHandle" ∧ (parseMethodDescriptor yX4_behindAheadOf.desc).map (fun d => d.parameters.length) = some 1 := by decide +kernel
theorem bw_cX4_allHaveCome : Cond.code yX4_allHaveCome cX4_allHaveCome 1 (some .boolean) ∈ bt_big := bw_T 559 (by decide +kernel) (by decide +kernel)
theorem bw_iX4_allHaveCome : Cond.instanceMethod yX4_allHaveCome ∈ bt_big := bw_T 557 (by decide +kernel) (by decide +kernel)
theorem bw_sX4_allHaveCome : Cond.selects RX4 yX4_allHaveCome yX4_allHaveCome ∈ bt_big := bw_T 558 (by decide +kernel) (by decide +kernel)
theorem bw_dX4_allHaveCome : yX4_allHaveCome.cls ≠ "java/lang/invoke/MethodHandle" ∧ yX4_allHaveCome.cls ≠ "java/lang/invoke/VarHandle" ∧ (parseMethodDescriptor yX4_allHaveCome.desc).map (fun d => d.parameters.length) = some 0 := by decide +kernel
theorem bw_cX4_milesLeft : Cond.code yX4_milesLeft cX4_milesLeft 3 (some .int) ∈ bt_big := bw_T 800 (by decide +kernel) (by decide +kernel)
theorem bw_iX4_milesLeft : Cond.instanceMethod yX4_milesLeft ∈ bt_big := bw_T 798 (by decide +kernel) (by decide +kernel)
theorem bw_sX4_milesLeft : Cond.selects RX4 yX4_milesLeft yX4_milesLeft ∈ bt_big := bw_T 799 (by decide +kernel) (by decide +kernel)
theorem bw_dX4_milesLeft : yX4_milesLeft.cls ≠ "java/lang/invoke/MethodHandle" ∧ yX4_milesLeft.cls ≠ "java/lang/invoke/VarHandle" ∧ (parseMethodDescriptor yX4_milesLeft.desc).map (fun d => d.parameters.length) = some 0 := by decide +kernel
theorem bw_cX4_sumOfTimes : Cond.code yX4_sumOfTimes cX4_sumOfTimes 3 (some .int) ∈ bt_big := bw_T 593 (by decide +kernel) (by decide +kernel)
theorem bw_iX4_sumOfTimes : Cond.instanceMethod yX4_sumOfTimes ∈ bt_big := bw_T 591 (by decide +kernel) (by decide +kernel)
theorem bw_sX4_sumOfTimes : Cond.selects RX4 yX4_sumOfTimes yX4_sumOfTimes ∈ bt_big := bw_T 592 (by decide +kernel) (by decide +kernel)
theorem bw_dX4_sumOfTimes : yX4_sumOfTimes.cls ≠ "java/lang/invoke/MethodHandle" ∧ yX4_sumOfTimes.cls ≠ "java/lang/invoke/VarHandle" ∧ (parseMethodDescriptor yX4_sumOfTimes.desc).map (fun d => d.parameters.length) = some 0 := by decide +kernel
theorem bw_cX4_driveOne : Cond.code yX4_driveOne cX4_driveOne 4 (some .int) ∈ bt_big := bw_T 563 (by decide +kernel) (by decide +kernel)
theorem bw_iX4_driveOne : Cond.instanceMethod yX4_driveOne ∈ bt_big := bw_T 561 (by decide +kernel) (by decide +kernel)
theorem bw_sX4_driveOne : Cond.selects RX4 yX4_driveOne yX4_driveOne ∈ bt_big := bw_T 562 (by decide +kernel) (by decide +kernel)
theorem bw_dX4_driveOne : yX4_driveOne.cls ≠ "java/lang/invoke/MethodHandle" ∧ yX4_driveOne.cls ≠ "java/lang/invoke/VarHandle" ∧ (parseMethodDescriptor yX4_driveOne.desc).map (fun d => d.parameters.length) = some 1 := by decide +kernel
theorem bw_cX4_driveToEnd : Cond.code yX4_driveToEnd cX4_driveToEnd 2 (some .int) ∈ bt_big := bw_T 588 (by decide +kernel) (by decide +kernel)
theorem bw_iX4_driveToEnd : Cond.instanceMethod yX4_driveToEnd ∈ bt_big := bw_T 586 (by decide +kernel) (by decide +kernel)
theorem bw_sX4_driveToEnd : Cond.selects RX4 yX4_driveToEnd yX4_driveToEnd ∈ bt_big := bw_T 587 (by decide +kernel) (by decide +kernel)
theorem bw_dX4_driveToEnd : yX4_driveToEnd.cls ≠ "java/lang/invoke/MethodHandle" ∧ yX4_driveToEnd.cls ≠ "java/lang/invoke/VarHandle" ∧ (parseMethodDescriptor yX4_driveToEnd.desc).map (fun d => d.parameters.length) = some 0 := by decide +kernel
theorem bw_cX5_feed : Cond.code yX5_feed cX5_feed 2 (some .int) ∈ bt_big := bw_T 311 (by decide +kernel) (by decide +kernel)
theorem bw_iX5_feed : Cond.instanceMethod yX5_feed ∈ bt_big := bw_T 309 (by decide +kernel) (by decide +kernel)
theorem bw_sX5_feed : Cond.selects RX5 yX5_feed yX5_feed ∈ bt_big := bw_T 310 (by decide +kernel) (by decide +kernel)
theorem bw_dX5_feed : yX5_feed.cls ≠ "java/lang/invoke/MethodHandle" ∧ yX5_feed.cls ≠ "java/lang/invoke/VarHandle" ∧ (parseMethodDescriptor yX5_feed.desc).map (fun d => d.parameters.length) = some 1 := by decide +kernel
theorem bw_cX5_end : Cond.code yX5_end cX5_end 3 (some .int) ∈ bt_big := bw_T 322 (by decide +kernel) (by decide +kernel)
theorem bw_iX5_end : Cond.instanceMethod yX5_end ∈ bt_big := bw_T 320 (by decide +kernel) (by decide +kernel)
theorem bw_sX5_end : Cond.selects RX5 yX5_end yX5_end ∈ bt_big := bw_T 321 (by decide +kernel) (by decide +kernel)
theorem bw_dX5_end : yX5_end.cls ≠ "java/lang/invoke/MethodHandle" ∧ yX5_end.cls ≠ "java/lang/invoke/VarHandle" ∧ (parseMethodDescriptor yX5_end.desc).map (fun d => d.parameters.length) = some 1 := by decide +kernel
theorem bw_cX5_text : Cond.code yX5_text cX5_text 2 (some .int) ∈ bt_big := bw_T 326 (by decide +kernel) (by decide +kernel)
theorem bw_iX5_text : Cond.instanceMethod yX5_text ∈ bt_big := bw_T 324 (by decide +kernel) (by decide +kernel)
theorem bw_sX5_text : Cond.selects RX5 yX5_text yX5_text ∈ bt_big := bw_T 325 (by decide +kernel) (by decide +kernel)
theorem bw_dX5_text : yX5_text.cls ≠ "java/lang/invoke/MethodHandle" ∧ yX5_text.cls ≠ "java/lang/invoke/VarHandle" ∧ (parseMethodDescriptor yX5_text.desc).map (fun d => d.parameters.length) = some 0 := by decide +kernel
theorem bw_cX5_fault : Cond.code yX5_fault cX5_fault 1 (some .int) ∈ bt_big := bw_T 467 (by decide +kernel) (by decide +kernel)
theorem bw_iX5_fault : Cond.instanceMethod yX5_fault ∈ bt_big := bw_T 465 (by decide +kernel) (by decide +kernel)
theorem bw_sX5_fault : Cond.selects RX5 yX5_fault yX5_fault ∈ bt_big := bw_T 466 (by decide +kernel) (by decide +kernel)
theorem bw_dX5_fault : yX5_fault.cls ≠ "java/lang/invoke/MethodHandle" ∧ yX5_fault.cls ≠ "java/lang/invoke/VarHandle" ∧ (parseMethodDescriptor yX5_fault.desc).map (fun d => d.parameters.length) = some 0 := by decide +kernel
theorem bw_cX5_rule : Cond.code yX5_rule cX5_rule 2 (some .int) ∈ bt_big := bw_T 471 (by decide +kernel) (by decide +kernel)
theorem bw_iX5_rule : Cond.instanceMethod yX5_rule ∈ bt_big := bw_T 469 (by decide +kernel) (by decide +kernel)
theorem bw_sX5_rule : Cond.selects RX5 yX5_rule yX5_rule ∈ bt_big := bw_T 470 (by decide +kernel) (by decide +kernel)
theorem bw_dX5_rule : yX5_rule.cls ≠ "java/lang/invoke/MethodHandle" ∧ yX5_rule.cls ≠ "java/lang/invoke/VarHandle" ∧ (parseMethodDescriptor yX5_rule.desc).map (fun d => d.parameters.length) = some 1 := by decide +kernel
theorem bw_cX5_isStretch : Cond.code yX5_isStretch cX5_isStretch 2 (some .boolean) ∈ bt_big := bw_T 479 (by decide +kernel) (by decide +kernel)
theorem bw_iX5_isStretch : Cond.instanceMethod yX5_isStretch ∈ bt_big := bw_T 478 (by decide +kernel) (by decide +kernel)
theorem bw_sX5_isStretch : Cond.selects RX5 yX5_isStretch yX5_isStretch ∈ bt_big := bt_bigN 13 (by decide +kernel) (by decide +kernel)
theorem bw_dX5_isStretch : yX5_isStretch.cls ≠ "java/lang/invoke/MethodHandle" ∧ yX5_isStretch.cls ≠ "java/lang/invoke/VarHandle" ∧ (parseMethodDescriptor yX5_isStretch.desc).map (fun d => d.parameters.length) = some 1 := by decide +kernel
theorem bw_cX5_road : Cond.code yX5_road cX5_road 3 (some .int) ∈ bt_big := bw_T 475 (by decide +kernel) (by decide +kernel)
theorem bw_iX5_road : Cond.instanceMethod yX5_road ∈ bt_big := bw_T 473 (by decide +kernel) (by decide +kernel)
theorem bw_sX5_road : Cond.selects RX5 yX5_road yX5_road ∈ bt_big := bw_T 474 (by decide +kernel) (by decide +kernel)
theorem bw_dX5_road : yX5_road.cls ≠ "java/lang/invoke/MethodHandle" ∧ yX5_road.cls ≠ "java/lang/invoke/VarHandle" ∧ (parseMethodDescriptor yX5_road.desc).map (fun d => d.parameters.length) = some 2 := by decide +kernel
theorem bw_cX5_isCar : Cond.code yX5_isCar cX5_isCar 2 (some .boolean) ∈ bt_big := bw_T 488 (by decide +kernel) (by decide +kernel)
theorem bw_iX5_isCar : Cond.instanceMethod yX5_isCar ∈ bt_big := bw_T 487 (by decide +kernel) (by decide +kernel)
theorem bw_sX5_isCar : Cond.selects RX5 yX5_isCar yX5_isCar ∈ bt_big := bt_bigN 14 (by decide +kernel) (by decide +kernel)
theorem bw_dX5_isCar : yX5_isCar.cls ≠ "java/lang/invoke/MethodHandle" ∧ yX5_isCar.cls ≠ "java/lang/invoke/VarHandle" ∧ (parseMethodDescriptor yX5_isCar.desc).map (fun d => d.parameters.length) = some 1 := by decide +kernel
theorem bw_cX5_car : Cond.code yX5_car cX5_car 3 (some .int) ∈ bt_big := bw_T 484 (by decide +kernel) (by decide +kernel)
theorem bw_iX5_car : Cond.instanceMethod yX5_car ∈ bt_big := bw_T 482 (by decide +kernel) (by decide +kernel)
theorem bw_sX5_car : Cond.selects RX5 yX5_car yX5_car ∈ bt_big := bw_T 483 (by decide +kernel) (by decide +kernel)
