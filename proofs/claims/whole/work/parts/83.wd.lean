/-! THE WORDS OF THE CALLS, 4 -/
theorem bw_iJ0_charAt_5068e : Cond.instanceMethod yJ0_charAt_5068e ∈ bt_big := bw_T 370 (by decide +kernel) (by decide +kernel)
theorem bw_sJ0_charAt_5068e : Cond.selects RJ0 yJ0_charAt_5068e yJ0_charAt_5068e ∈ bt_big := bw_T 371 (by decide +kernel) (by decide +kernel)
theorem bw_dJ0_charAt_5068e : yJ0_charAt_5068e.cls ≠ "java/lang/invoke/MethodHandle" ∧ yJ0_charAt_5068e.cls ≠ "java/lang/invoke/VarHandle" ∧ (parseMethodDescriptor yJ0_charAt_5068e.desc).map (fun d => d.parameters.length) = some 1 := by decide +kernel
theorem bw_zX4 : Cond.initialized RX4 ∈ bt_big := bw_T 3 (by decide +kernel) (by decide +kernel)
theorem bw_zJ1 : Cond.initialized RJ1 ∈ bt_big := bw_T 9 (by decide +kernel) (by decide +kernel)
theorem bw_zJ9 : Cond.initialized RJ9 ∈ bt_big := bw_T 14 (by decide +kernel) (by decide +kernel)
theorem bw_zJ10 : Cond.initialized RJ10 ∈ bt_big := bw_T 12 (by decide +kernel) (by decide +kernel)
theorem bw_zL : Cond.initialized RL ∈ bt_big := bw_T 0 (by decide +kernel) (by decide +kernel)
theorem bw_zX0 : Cond.initialized RX0 ∈ bt_big := bw_T 5 (by decide +kernel) (by decide +kernel)
theorem bw_zJ0 : Cond.initialized RJ0 ∈ bt_big := bw_T 8 (by decide +kernel) (by decide +kernel)
theorem bw_zJ3 : Cond.initialized RJ3 ∈ bt_big := bw_T 10 (by decide +kernel) (by decide +kernel)
theorem bw_zX3 : Cond.initialized RX3 ∈ bt_big := bw_T 2 (by decide +kernel) (by decide +kernel)
theorem bw_zX2 : Cond.initialized RX2 ∈ bt_big := bw_T 4 (by decide +kernel) (by decide +kernel)
theorem bw_zX5 : Cond.initialized RX5 ∈ bt_big := bw_T 1 (by decide +kernel) (by decide +kernel)
theorem bw_zJ2 : Cond.initialized RJ2 ∈ bt_big := bw_T 11 (by decide +kernel) (by decide +kernel)
theorem bw_zX1 : Cond.initialized RX1 ∈ bt_big := bw_T 6 (by decide +kernel) (by decide +kernel)
theorem bw_zX6 : Cond.initialized RX6 ∈ bt_big := bw_T 7 (by decide +kernel) (by decide +kernel)
theorem bw_zJ6 : Cond.initialized RJ6 ∈ bt_big := bw_T 13 (by decide +kernel) (by decide +kernel)
theorem bw_lX4_73 : Cond.methodLink RX4 73 yX4_everybody ∈ bt_big := bw_T 498 (by decide +kernel) (by decide +kernel)
theorem bw_lX4_77 : Cond.methodLinkNest RX4 77 yX5_bit RX5 ∈ bt_nst := by simp [bt_nst]
theorem bw_lX4_90 : Cond.methodLink RX4 90 yJ9_max_7cf53 ∈ bt_big := bw_T 516 (by decide +kernel) (by decide +kernel)
theorem bw_lX4_95 : Cond.methodLink RX4 95 yJ9_min_7cf53 ∈ bt_big := bw_T 519 (by decide +kernel) (by decide +kernel)
theorem bw_lX4_81 : Cond.methodLink RX4 81 yX4_behind ∈ bt_big := bw_T 494 (by decide +kernel) (by decide +kernel)
theorem bw_lX4_85 : Cond.methodLink RX4 85 yJ6_bitCount_0f7a4 ∈ bt_big := bw_T 502 (by decide +kernel) (by decide +kernel)
theorem bw_lX4_98 : Cond.methodLink RX4 98 yX4_ofUse ∈ bt_big := bw_T 568 (by decide +kernel) (by decide +kernel)
theorem bw_lX4_101 : Cond.methodLink RX4 101 yX4_passes ∈ bt_big := bw_T 569 (by decide +kernel) (by decide +kernel)
theorem bw_lX0_92 : Cond.methodLink RX0 92 yX4_comers ∈ bt_big := bw_T 731 (by decide +kernel) (by decide +kernel)
theorem bw_lX0_99 : Cond.methodLink RX0 99 yX4_minutes ∈ bt_big := bw_T 732 (by decide +kernel) (by decide +kernel)
theorem bw_lX0_102 : Cond.methodLink RX0 102 yJ9_min_7cf53 ∈ bt_big := bw_T 737 (by decide +kernel) (by decide +kernel)
theorem bw_lX0_39 : Cond.methodLink RX0 39 yX4_stretchesLeft ∈ bt_big := bw_T 717 (by decide +kernel) (by decide +kernel)
theorem bw_lX0_59 : Cond.methodLink RX0 59 arraycopyName ∈ bt_big := bw_T 721 (by decide +kernel) (by decide +kernel)
theorem bw_lX0_71 : Cond.methodLink RX0 71 yJ6_numberOfTrailingZeros_0f7a4 ∈ bt_big := bw_T 722 (by decide +kernel) (by decide +kernel)
theorem bw_lX0_77 : Cond.methodLinkNest RX0 77 yX5_bit RX5 ∈ bt_nst := by simp [bt_nst]
theorem bw_lX0_81 : Cond.methodLink RX0 81 yX0_goDown ∈ bt_big := bw_T 727 (by decide +kernel) (by decide +kernel)
theorem bw_lX0_85 : Cond.methodLink RX0 85 yX0_judge ∈ bt_big := bw_T 733 (by decide +kernel) (by decide +kernel)
theorem bw_lX1_46 : Cond.methodLink RX1 46 yX4_comers ∈ bt_big := bw_T 622 (by decide +kernel) (by decide +kernel)
theorem bw_lX1_53 : Cond.methodLink RX1 53 arraycopyName ∈ bt_big := bw_T 623 (by decide +kernel) (by decide +kernel)
theorem bw_lX1_18 : Cond.methodLink RX1 18 yX1_begin ∈ bt_big := bw_T 614 (by decide +kernel) (by decide +kernel)
theorem bw_lX1_28 : Cond.methodLink RX1 28 yX1_spreadOne ∈ bt_big := bw_T 618 (by decide +kernel) (by decide +kernel)
theorem bw_lX1_61 : Cond.methodLinkNest RX1 61 yX5_bit RX5 ∈ bt_nst := by simp [bt_nst]
theorem bw_lX1_71 : Cond.methodLink RX1 71 yX1_weightOfGone ∈ bt_big := bw_T 641 (by decide +kernel) (by decide +kernel)
theorem bw_lX1_97 : Cond.methodLink RX1 97 yX4_ofUse ∈ bt_big := bw_T 692 (by decide +kernel) (by decide +kernel)
theorem bw_lX1_100 : Cond.methodLink RX1 100 yX4_passes ∈ bt_big := bw_T 693 (by decide +kernel) (by decide +kernel)
theorem bw_lX1_87 : Cond.methodLink RX1 87 yX1_tenthsToPass ∈ bt_big := bw_T 689 (by decide +kernel) (by decide +kernel)
theorem bw_lX1_91 : Cond.methodLink RX1 91 yJ9_max_f86c9 ∈ bt_big := bw_T 694 (by decide +kernel) (by decide +kernel)
theorem bw_lX2_22 : Cond.methodLinkNest RX2 22 yX5_within RX5 ∈ bt_nst := by simp [bt_nst]
theorem bw_lX3_85 : Cond.methodLink RX3 85 yX3_isLetter ∈ bt_big := bw_T 339 (by decide +kernel) (by decide +kernel)
theorem bw_lX3_92 : Cond.methodLink RX3 92 yX3_isFigure ∈ bt_big := bw_T 342 (by decide +kernel) (by decide +kernel)
theorem bw_lX3_95 : Cond.methodLinkNest RX3 95 yX5_within RX5 ∈ bt_nst := by simp [bt_nst]
theorem bw_lX3_69 : Cond.methodLink RX3 69 yX3_refuse ∈ bt_big := bw_T 346 (by decide +kernel) (by decide +kernel)
theorem bw_lX3_99 : Cond.methodLink RX3 99 yJ0_length_8abf5 ∈ bt_big := bw_T 359 (by decide +kernel) (by decide +kernel)
theorem bw_lX3_104 : Cond.methodLink RX3 104 yJ0_charAt_5068e ∈ bt_big := bw_T 369 (by decide +kernel) (by decide +kernel)
theorem bw_lX3_53 : Cond.methodLink RX3 53 yX3_advance ∈ bt_big := bw_T 335 (by decide +kernel) (by decide +kernel)
theorem bw_lX3_145 : Cond.methodLink RX3 145 yX3_numbered ∈ bt_big := bw_T 411 (by decide +kernel) (by decide +kernel)
theorem bw_lX3_138 : Cond.methodLink RX3 138 yX3_stops ∈ bt_big := bw_T 415 (by decide +kernel) (by decide +kernel)
theorem bw_lX3_110 : Cond.methodLink RX3 110 yX3_says ∈ bt_big := bw_T 355 (by decide +kernel) (by decide +kernel)
theorem bw_lX3_173 : Cond.methodLink RX3 173 yX3_kindSaid ∈ bt_big := bw_T 424 (by decide +kernel) (by decide +kernel)
theorem bw_lX3_148 : Cond.methodLinkNest RX3 148 yX5_bit RX5 ∈ bt_nst := by simp [bt_nst]
theorem bw_lX3_114 : Cond.methodLink RX3 114 yX3_tellRoad ∈ bt_big := bw_T 407 (by decide +kernel) (by decide +kernel)
theorem bw_lX3_119 : Cond.methodLink RX3 119 yX3_tellCar ∈ bt_big := bw_T 420 (by decide +kernel) (by decide +kernel)
theorem bw_lX3_124 : Cond.methodLink RX3 124 yX3_tellSlow ∈ bt_big := bw_T 434 (by decide +kernel) (by decide +kernel)
theorem bw_lX3_129 : Cond.methodLink RX3 129 yX3_stretchMore ∈ bt_big := bw_T 439 (by decide +kernel) (by decide +kernel)
theorem bw_lX3_133 : Cond.methodLink RX3 133 yX3_tellOdds ∈ bt_big := bw_T 446 (by decide +kernel) (by decide +kernel)
theorem bw_lX3_26 : Cond.methodLink RX3 26 yX4_clear ∈ bt_big := bw_T 331 (by decide +kernel) (by decide +kernel)
theorem bw_lX3_60 : Cond.methodLink RX3 60 yX3_tellLine ∈ bt_big := bw_T 350 (by decide +kernel) (by decide +kernel)
theorem bw_lX3_63 : Cond.methodLink RX3 63 yX3_checkStretches ∈ bt_big := bw_T 453 (by decide +kernel) (by decide +kernel)
theorem bw_lX4_67 : Cond.methodLink RX4 67 arraycopyName ∈ bt_big := bw_T 461 (by decide +kernel) (by decide +kernel)
theorem bw_lX4_105 : Cond.methodLink RX4 105 yX4_comers ∈ bt_big := bw_T 564 (by decide +kernel) (by decide +kernel)
theorem bw_lX4_109 : Cond.methodLink RX4 109 yX4_minutes ∈ bt_big := bw_T 573 (by decide +kernel) (by decide +kernel)
theorem bw_lX4_112 : Cond.methodLink RX4 112 yX4_driveOne ∈ bt_big := bw_T 589 (by decide +kernel) (by decide +kernel)
theorem bw_lX4_115 : Cond.methodLink RX4 115 yX4_sumOfTimes ∈ bt_big := bw_T 590 (by decide +kernel) (by decide +kernel)
theorem bw_lX5_51 : Cond.methodLink RX5 51 yX5_within ∈ bt_big := bw_T 312 (by decide +kernel) (by decide +kernel)
theorem bw_lX5_55 : Cond.methodLink RX5 55 yX3_add ∈ bt_big := bw_T 315 (by decide +kernel) (by decide +kernel)
theorem bw_lX5_63 : Cond.methodLink RX5 63 yX3_tellAll ∈ bt_big := bw_T 327 (by decide +kernel) (by decide +kernel)
theorem bw_lX5_76 : Cond.methodLink RX5 76 yX4_takeFrom ∈ bt_big := bw_T 457 (by decide +kernel) (by decide +kernel)
theorem bw_lX5_107 : Cond.methodLink RX5 107 yX5_isStretch ∈ bt_big := bw_T 476 (by decide +kernel) (by decide +kernel)
theorem bw_lX5_126 : Cond.methodLink RX5 126 yX5_bit ∈ bt_big := bw_T 480 (by decide +kernel) (by decide +kernel)
theorem bw_lX5_136 : Cond.methodLink RX5 136 yX5_isCar ∈ bt_big := bw_T 485 (by decide +kernel) (by decide +kernel)
theorem bw_lX5_151 : Cond.methodLink RX5 151 yX4_behindAheadOf ∈ bt_big := bw_T 489 (by decide +kernel) (by decide +kernel)
theorem bw_lX5_155 : Cond.methodLink RX5 155 yX4_ofUse ∈ bt_big := bw_T 512 (by decide +kernel) (by decide +kernel)
theorem bw_lX5_158 : Cond.methodLink RX5 158 yX5_exchange ∈ bt_big := bw_T 526 (by decide +kernel) (by decide +kernel)
theorem bw_lX5_162 : Cond.methodLink RX5 162 yX5_withBit ∈ bt_big := bw_T 541 (by decide +kernel) (by decide +kernel)
theorem bw_lX5_166 : Cond.methodLink RX5 166 yX4_allHaveCome ∈ bt_big := bw_T 556 (by decide +kernel) (by decide +kernel)
theorem bw_lX5_170 : Cond.methodLink RX5 170 yX4_driveOne ∈ bt_big := bw_T 560 (by decide +kernel) (by decide +kernel)
theorem bw_lX5_173 : Cond.methodLink RX5 173 yX4_driveToEnd ∈ bt_big := bw_T 585 (by decide +kernel) (by decide +kernel)
theorem bw_lX5_176 : Cond.methodLink RX5 176 yJ9_min_7cf53 ∈ bt_big := bw_T 598 (by decide +kernel) (by decide +kernel)
theorem bw_lX5_181 : Cond.methodLink RX5 181 yX4_behind ∈ bt_big := bw_T 599 (by decide +kernel) (by decide +kernel)
theorem bw_lX5_184 : Cond.methodLink RX5 184 yX4_everybody ∈ bt_big := bw_T 604 (by decide +kernel) (by decide +kernel)
theorem bw_lX5_189 : Cond.methodLink RX5 189 yX1_spread ∈ bt_big := bw_T 610 (by decide +kernel) (by decide +kernel)
theorem bw_lX5_193 : Cond.methodLink RX5 193 yX1_weightOfGone ∈ bt_big := bw_T 625 (by decide +kernel) (by decide +kernel)
theorem bw_lX5_201 : Cond.methodLink RX5 201 yX5_lowest ∈ bt_big := bw_T 630 (by decide +kernel) (by decide +kernel)
theorem bw_lX5_205 : Cond.methodLink RX5 205 yX1_weightedTime ∈ bt_big := bw_T 637 (by decide +kernel) (by decide +kernel)
theorem bw_lX5_209 : Cond.methodLink RX5 209 yX1_spreadOne ∈ bt_big := bw_T 650 (by decide +kernel) (by decide +kernel)
theorem bw_lX5_214 : Cond.methodLink RX5 214 yX5_bestPlace ∈ bt_big := bw_T 660 (by decide +kernel) (by decide +kernel)
theorem bw_lX5_218 : Cond.methodLink RX5 218 yX4_firstBehind ∈ bt_big := bw_T 680 (by decide +kernel) (by decide +kernel)
theorem bw_lX5_223 : Cond.methodLink RX5 223 yX1_bestDaring ∈ bt_big := bw_T 685 (by decide +kernel) (by decide +kernel)
theorem bw_lX5_230 : Cond.methodLink RX5 230 yX0_add ∈ bt_big := bw_T 701 (by decide +kernel) (by decide +kernel)
theorem bw_lX5_233 : Cond.methodLink RX5 233 yX0_tryAllSets ∈ bt_big := bw_T 713 (by decide +kernel) (by decide +kernel)
theorem bw_lX5_245 : Cond.methodLink RX5 245 yX4_stretchesLeft ∈ bt_big := bw_T 738 (by decide +kernel) (by decide +kernel)
theorem bw_lX5_255 : Cond.methodLink RX5 255 yX4_sumOfTimes ∈ bt_big := bw_T 748 (by decide +kernel) (by decide +kernel)
theorem bw_lX5_258 : Cond.methodLink RX5 258 yX5_isSheet ∈ bt_big := bw_T 761 (by decide +kernel) (by decide +kernel)
theorem bw_lX5_261 : Cond.methodLink RX5 261 yX5_isLane ∈ bt_big := bw_T 764 (by decide +kernel) (by decide +kernel)
theorem bw_lX5_264 : Cond.methodLink RX5 264 yX2_begin ∈ bt_big := bw_T 767 (by decide +kernel) (by decide +kernel)
theorem bw_lX5_271 : Cond.methodLink RX5 271 yX2_faultAt ∈ bt_big := bw_T 775 (by decide +kernel) (by decide +kernel)
theorem bw_lX5_274 : Cond.methodLink RX5 274 yX2_put ∈ bt_big := bw_T 780 (by decide +kernel) (by decide +kernel)
theorem bw_lX5_283 : Cond.methodLink RX5 283 yJ6_bitCount_0f7a4 ∈ bt_big := bw_T 796 (by decide +kernel) (by decide +kernel)
theorem bw_lX5_291 : Cond.methodLink RX5 291 yX4_milesLeft ∈ bt_big := bw_T 797 (by decide +kernel) (by decide +kernel)
theorem bw_lX6_46 : Cond.methodLink RX6 46 yX6_in ∈ bt_big := bw_T 895 (by decide +kernel) (by decide +kernel)
theorem bw_lX6_69 : Cond.methodLink RX6 69 yX6_byteAt ∈ bt_big := bw_T 910 (by decide +kernel) (by decide +kernel)
theorem bw_lX6_84 : Cond.methodLink RX6 84 yX6_fails ∈ bt_big := bw_T 918 (by decide +kernel) (by decide +kernel)
theorem bw_lX6_88 : Cond.methodLink RX6 88 yX6_step ∈ bt_big := bw_T 906 (by decide +kernel) (by decide +kernel)
theorem bw_lX6_93 : Cond.methodLink RX6 93 yX6_number ∈ bt_big := bw_T 935 (by decide +kernel) (by decide +kernel)
theorem bw_lX6_103 : Cond.methodLink RX6 103 yX6_nameHere ∈ bt_big := bw_T 926 (by decide +kernel) (by decide +kernel)
theorem bw_lX6_110 : Cond.methodLink RX6 110 yX6_readCar ∈ bt_big := bw_T 939 (by decide +kernel) (by decide +kernel)
theorem bw_lX6_113 : Cond.methodLink RX6 113 yX6_fresh ∈ bt_big := bw_T 943 (by decide +kernel) (by decide +kernel)
theorem bw_lX6_121 : Cond.methodLink RX6 121 yX6_readMore ∈ bt_big := bw_T 931 (by decide +kernel) (by decide +kernel)
theorem bw_lX6_124 : Cond.methodLink RX6 124 yX6_readLine ∈ bt_big := bw_T 922 (by decide +kernel) (by decide +kernel)
theorem bw_lX6_139 : Cond.methodLink RX6 139 yX6_isPast ∈ bt_big := bw_T 964 (by decide +kernel) (by decide +kernel)
theorem bw_lX6_143 : Cond.methodLink RX6 143 yX6_paceOn ∈ bt_big := bw_T 956 (by decide +kernel) (by decide +kernel)
theorem bw_lX6_146 : Cond.methodLink RX6 146 yX6_pastOn ∈ bt_big := bw_T 960 (by decide +kernel) (by decide +kernel)
theorem bw_lX6_149 : Cond.methodLink RX6 149 yX6_isRoad ∈ bt_big := bw_T 972 (by decide +kernel) (by decide +kernel)
theorem bw_lX6_153 : Cond.methodLink RX6 153 yX6_isCar ∈ bt_big := bw_T 980 (by decide +kernel) (by decide +kernel)
theorem bw_lX6_158 : Cond.methodLink RX6 158 yX6_aheadOf ∈ bt_big := bw_T 985 (by decide +kernel) (by decide +kernel)
theorem bw_lX6_163 : Cond.methodLink RX6 163 yX6_useOn ∈ bt_big := bw_T 994 (by decide +kernel) (by decide +kernel)
theorem bw_lX6_167 : Cond.methodLink RX6 167 yX6_sets ∈ bt_big := bw_T 1002 (by decide +kernel) (by decide +kernel)
theorem bw_lX6_177 : Cond.methodLink RX6 177 yX6_isEnough ∈ bt_big := bw_T 1052 (by decide +kernel) (by decide +kernel)
theorem bw_lX6_181 : Cond.methodLink RX6 181 yX6_bitsOf ∈ bt_big := bw_T 1045 (by decide +kernel) (by decide +kernel)
theorem bw_lX6_184 : Cond.methodLink RX6 184 yX6_passOn ∈ bt_big := bw_T 1048 (by decide +kernel) (by decide +kernel)
theorem bw_lX6_187 : Cond.methodLink RX6 187 yX6_areLeft ∈ bt_big := bw_T 1037 (by decide +kernel) (by decide +kernel)
theorem bw_lX6_190 : Cond.methodLink RX6 190 yX6_driveOn ∈ bt_big := bw_T 1041 (by decide +kernel) (by decide +kernel)
theorem bw_lX6_193 : Cond.methodLink RX6 193 yX6_drives ∈ bt_big := bw_T 1033 (by decide +kernel) (by decide +kernel)
theorem bw_lX6_196 : Cond.methodLink RX6 196 yX6_ownGap ∈ bt_big := bw_T 1060 (by decide +kernel) (by decide +kernel)
theorem bw_lX6_199 : Cond.methodLink RX6 199 yX6_copies ∈ bt_big := bw_T 1068 (by decide +kernel) (by decide +kernel)
theorem bw_lX6_205 : Cond.methodLink RX6 205 yX6_triesFrom ∈ bt_big := bw_T 1081 (by decide +kernel) (by decide +kernel)
theorem bw_lX6_208 : Cond.methodLink RX6 208 yX6_timesOn ∈ bt_big := bw_T 1085 (by decide +kernel) (by decide +kernel)
theorem bw_lX6_211 : Cond.methodLink RX6 211 yX6_milesLeft ∈ bt_big := bw_T 1089 (by decide +kernel) (by decide +kernel)
theorem bw_lX6_214 : Cond.methodLink RX6 214 yX6_leftMany ∈ bt_big := bw_T 1101 (by decide +kernel) (by decide +kernel)
theorem bw_lX6_217 : Cond.methodLink RX6 217 yX6_triesBy ∈ bt_big := bw_T 1105 (by decide +kernel) (by decide +kernel)
theorem bw_lX6_220 : Cond.methodLink RX6 220 yX6_weightOf ∈ bt_big := bw_T 1109 (by decide +kernel) (by decide +kernel)
theorem bw_lX6_224 : Cond.methodLink RX6 224 yX6_allWeight ∈ bt_big := bw_T 1113 (by decide +kernel) (by decide +kernel)
theorem bw_lX6_228 : Cond.methodLink RX6 228 yX6_lowest ∈ bt_big := bw_T 1117 (by decide +kernel) (by decide +kernel)
theorem bw_lX6_232 : Cond.methodLink RX6 232 yX6_meanOf ∈ bt_big := bw_T 1097 (by decide +kernel) (by decide +kernel)
theorem bw_lX6_238 : Cond.methodLink RX6 238 yX6_timesOfOthers ∈ bt_big := bw_T 1137 (by decide +kernel) (by decide +kernel)
theorem bw_lX6_241 : Cond.methodLink RX6 241 yX6_mostSaved ∈ bt_big := bw_T 1145 (by decide +kernel) (by decide +kernel)
theorem bw_lX6_246 : Cond.methodLink RX6 246 yX6_firstBehind ∈ bt_big := bw_T 1166 (by decide +kernel) (by decide +kernel)
theorem bw_lX6_251 : Cond.methodLink RX6 251 yX6_chance ∈ bt_big := bw_T 1171 (by decide +kernel) (by decide +kernel)
theorem bw_lX6_258 : Cond.methodLink RX6 258 yX6_isAsSeen ∈ bt_big := bw_T 1189 (by decide +kernel) (by decide +kernel)
theorem bw_lL_13 : Cond.methodLink RL 13 yX5_feed ∈ bt_big := bw_T 308 (by decide +kernel) (by decide +kernel)
theorem bw_lL_17 : Cond.methodLink RL 17 yX6_feed ∈ bt_big := bw_T 890 (by decide +kernel) (by decide +kernel)
theorem bw_lL_18 : Cond.methodLink RL 18 yX5_end ∈ bt_big := bw_T 319 (by decide +kernel) (by decide +kernel)
theorem bw_lL_21 : Cond.methodLink RL 21 yX6_end ∈ bt_big := bw_T 898 (by decide +kernel) (by decide +kernel)
theorem bw_lL_22 : Cond.methodLink RL 22 yX5_text ∈ bt_big := bw_T 323 (by decide +kernel) (by decide +kernel)
theorem bw_lL_26 : Cond.methodLink RL 26 yX6_text ∈ bt_big := bw_T 902 (by decide +kernel) (by decide +kernel)
theorem bw_lL_27 : Cond.methodLink RL 27 yX5_fault ∈ bt_big := bw_T 464 (by decide +kernel) (by decide +kernel)
theorem bw_lL_30 : Cond.methodLink RL 30 yX6_fault ∈ bt_big := bw_T 948 (by decide +kernel) (by decide +kernel)
theorem bw_lL_31 : Cond.methodLink RL 31 yX5_rule ∈ bt_big := bw_T 468 (by decide +kernel) (by decide +kernel)
theorem bw_lL_34 : Cond.methodLink RL 34 yX6_rule ∈ bt_big := bw_T 952 (by decide +kernel) (by decide +kernel)
theorem bw_lL_35 : Cond.methodLink RL 35 yX5_road ∈ bt_big := bw_T 472 (by decide +kernel) (by decide +kernel)
theorem bw_lL_39 : Cond.methodLink RL 39 yX6_road ∈ bt_big := bw_T 968 (by decide +kernel) (by decide +kernel)
theorem bw_lL_40 : Cond.methodLink RL 40 yX5_car ∈ bt_big := bw_T 481 (by decide +kernel) (by decide +kernel)
theorem bw_lL_43 : Cond.methodLink RL 43 yX6_car ∈ bt_big := bw_T 976 (by decide +kernel) (by decide +kernel)
theorem bw_lL_44 : Cond.methodLink RL 44 yX5_use ∈ bt_big := bw_T 508 (by decide +kernel) (by decide +kernel)
theorem bw_lL_47 : Cond.methodLink RL 47 yX6_use ∈ bt_big := bw_T 989 (by decide +kernel) (by decide +kernel)
theorem bw_lL_48 : Cond.methodLink RL 48 yX5_gap ∈ bt_big := bw_T 522 (by decide +kernel) (by decide +kernel)
theorem bw_lL_51 : Cond.methodLink RL 51 yX6_gap ∈ bt_big := bw_T 998 (by decide +kernel) (by decide +kernel)
theorem bw_lL_52 : Cond.methodLink RL 52 yX5_sight ∈ bt_big := bw_T 529 (by decide +kernel) (by decide +kernel)
theorem bw_lL_55 : Cond.methodLink RL 55 yX6_sight ∈ bt_big := bw_T 1006 (by decide +kernel) (by decide +kernel)
theorem bw_lL_56 : Cond.methodLink RL 56 yX5_odd ∈ bt_big := bw_T 533 (by decide +kernel) (by decide +kernel)
theorem bw_lL_59 : Cond.methodLink RL 59 yX6_odd ∈ bt_big := bw_T 1010 (by decide +kernel) (by decide +kernel)
theorem bw_lL_60 : Cond.methodLink RL 60 yX5_build ∈ bt_big := bw_T 537 (by decide +kernel) (by decide +kernel)
theorem bw_lL_64 : Cond.methodLink RL 64 yX6_build ∈ bt_big := bw_T 1015 (by decide +kernel) (by decide +kernel)
theorem bw_lL_65 : Cond.methodLink RL 65 yX5_polite ∈ bt_big := bw_T 544 (by decide +kernel) (by decide +kernel)
theorem bw_lL_68 : Cond.methodLink RL 68 yX6_polite ∈ bt_big := bw_T 1020 (by decide +kernel) (by decide +kernel)
theorem bw_lL_69 : Cond.methodLink RL 69 yX5_teach ∈ bt_big := bw_T 548 (by decide +kernel) (by decide +kernel)
theorem bw_lL_73 : Cond.methodLink RL 73 yX6_teach ∈ bt_big := bw_T 1024 (by decide +kernel) (by decide +kernel)
theorem bw_lL_74 : Cond.methodLink RL 74 yX5_drive ∈ bt_big := bw_T 552 (by decide +kernel) (by decide +kernel)
theorem bw_lL_77 : Cond.methodLink RL 77 yX6_drive ∈ bt_big := bw_T 1029 (by decide +kernel) (by decide +kernel)
theorem bw_lL_78 : Cond.methodLink RL 78 yX5_on ∈ bt_big := bw_T 577 (by decide +kernel) (by decide +kernel)
theorem bw_lL_81 : Cond.methodLink RL 81 yX6_on ∈ bt_big := bw_T 1056 (by decide +kernel) (by decide +kernel)
theorem bw_lL_82 : Cond.methodLink RL 82 yX5_ahead ∈ bt_big := bw_T 581 (by decide +kernel) (by decide +kernel)
theorem bw_lL_85 : Cond.methodLink RL 85 yX6_ahead ∈ bt_big := bw_T 1064 (by decide +kernel) (by decide +kernel)
theorem bw_lL_86 : Cond.methodLink RL 86 yX5_tail ∈ bt_big := bw_T 594 (by decide +kernel) (by decide +kernel)
theorem bw_lL_89 : Cond.methodLink RL 89 yX6_tail ∈ bt_big := bw_T 1072 (by decide +kernel) (by decide +kernel)
theorem bw_lL_90 : Cond.methodLink RL 90 yX5_lost ∈ bt_big := bw_T 600 (by decide +kernel) (by decide +kernel)
theorem bw_lL_93 : Cond.methodLink RL 93 yX6_lost ∈ bt_big := bw_T 1077 (by decide +kernel) (by decide +kernel)
theorem bw_lL_94 : Cond.methodLink RL 94 yX5_past ∈ bt_big := bw_T 605 (by decide +kernel) (by decide +kernel)
theorem bw_lL_98 : Cond.methodLink RL 98 yX6_past ∈ bt_big := bw_T 1093 (by decide +kernel) (by decide +kernel)
theorem bw_lL_99 : Cond.methodLink RL 99 yX5_mean ∈ bt_big := bw_T 633 (by decide +kernel) (by decide +kernel)
theorem bw_lL_102 : Cond.methodLink RL 102 yX6_mean ∈ bt_big := bw_T 1121 (by decide +kernel) (by decide +kernel)
theorem bw_lL_103 : Cond.methodLink RL 103 yX5_row ∈ bt_big := bw_T 642 (by decide +kernel) (by decide +kernel)
theorem bw_lL_107 : Cond.methodLink RL 107 yX6_row ∈ bt_big := bw_T 1125 (by decide +kernel) (by decide +kernel)
theorem bw_lL_108 : Cond.methodLink RL 108 yX5_where ∈ bt_big := bw_T 646 (by decide +kernel) (by decide +kernel)
theorem bw_lL_112 : Cond.methodLink RL 112 yX6_where ∈ bt_big := bw_T 1129 (by decide +kernel) (by decide +kernel)
theorem bw_lL_113 : Cond.methodLink RL 113 yX5_cost ∈ bt_big := bw_T 652 (by decide +kernel) (by decide +kernel)
theorem bw_lL_116 : Cond.methodLink RL 116 yX6_cost ∈ bt_big := bw_T 1133 (by decide +kernel) (by decide +kernel)
theorem bw_lL_117 : Cond.methodLink RL 117 yX5_third ∈ bt_big := bw_T 656 (by decide +kernel) (by decide +kernel)
theorem bw_lL_120 : Cond.methodLink RL 120 yX6_third ∈ bt_big := bw_T 1141 (by decide +kernel) (by decide +kernel)
theorem bw_lL_121 : Cond.methodLink RL 121 yX5_layby ∈ bt_big := bw_T 664 (by decide +kernel) (by decide +kernel)
theorem bw_lL_124 : Cond.methodLink RL 124 yX6_layby ∈ bt_big := bw_T 1149 (by decide +kernel) (by decide +kernel)
theorem bw_lL_125 : Cond.methodLink RL 125 yX5_fair ∈ bt_big := bw_T 668 (by decide +kernel) (by decide +kernel)
theorem bw_lL_128 : Cond.methodLink RL 128 yX6_fair ∈ bt_big := bw_T 1153 (by decide +kernel) (by decide +kernel)
theorem bw_lL_129 : Cond.methodLink RL 129 yX5_need ∈ bt_big := bw_T 672 (by decide +kernel) (by decide +kernel)
theorem bw_lL_132 : Cond.methodLink RL 132 yX6_need ∈ bt_big := bw_T 1157 (by decide +kernel) (by decide +kernel)
theorem bw_lL_133 : Cond.methodLink RL 133 yX5_dare ∈ bt_big := bw_T 676 (by decide +kernel) (by decide +kernel)
theorem bw_lL_136 : Cond.methodLink RL 136 yX6_dare ∈ bt_big := bw_T 1161 (by decide +kernel) (by decide +kernel)
theorem bw_lL_137 : Cond.methodLink RL 137 yX5_see ∈ bt_big := bw_T 697 (by decide +kernel) (by decide +kernel)
theorem bw_lL_140 : Cond.methodLink RL 140 yX6_see ∈ bt_big := bw_T 1175 (by decide +kernel) (by decide +kernel)
theorem bw_lL_141 : Cond.methodLink RL 141 yX5_forget ∈ bt_big := bw_T 705 (by decide +kernel) (by decide +kernel)
theorem bw_lL_144 : Cond.methodLink RL 144 yX6_forget ∈ bt_big := bw_T 1180 (by decide +kernel) (by decide +kernel)
theorem bw_lL_145 : Cond.methodLink RL 145 yX5_fits ∈ bt_big := bw_T 709 (by decide +kernel) (by decide +kernel)
theorem bw_lL_148 : Cond.methodLink RL 148 yX6_fits ∈ bt_big := bw_T 1184 (by decide +kernel) (by decide +kernel)
theorem bw_lL_149 : Cond.methodLink RL 149 yX5_could ∈ bt_big := bw_T 739 (by decide +kernel) (by decide +kernel)
theorem bw_lL_152 : Cond.methodLink RL 152 yX6_could ∈ bt_big := bw_T 1193 (by decide +kernel) (by decide +kernel)
theorem bw_lL_153 : Cond.methodLink RL 153 yX5_drift ∈ bt_big := bw_T 743 (by decide +kernel) (by decide +kernel)
theorem bw_lL_156 : Cond.methodLink RL 156 yX6_drift ∈ bt_big := bw_T 1197 (by decide +kernel) (by decide +kernel)
theorem bw_lL_157 : Cond.methodLink RL 157 yX5_keep ∈ bt_big := bw_T 749 (by decide +kernel) (by decide +kernel)
theorem bw_lL_160 : Cond.methodLink RL 160 yX6_keep ∈ bt_big := bw_T 1202 (by decide +kernel) (by decide +kernel)
theorem bw_lL_161 : Cond.methodLink RL 161 yX5_back ∈ bt_big := bw_T 753 (by decide +kernel) (by decide +kernel)
theorem bw_lL_164 : Cond.methodLink RL 164 yX6_back ∈ bt_big := bw_T 1206 (by decide +kernel) (by decide +kernel)
theorem bw_lL_165 : Cond.methodLink RL 165 yX5_sheet ∈ bt_big := bw_T 757 (by decide +kernel) (by decide +kernel)
theorem bw_lL_168 : Cond.methodLink RL 168 yX6_sheet ∈ bt_big := bw_T 1210 (by decide +kernel) (by decide +kernel)
theorem bw_lL_169 : Cond.methodLink RL 169 yX5_lay ∈ bt_big := bw_T 771 (by decide +kernel) (by decide +kernel)
theorem bw_lL_172 : Cond.methodLink RL 172 yX6_lay ∈ bt_big := bw_T 1214 (by decide +kernel) (by decide +kernel)
theorem bw_lL_173 : Cond.methodLink RL 173 yX5_read ∈ bt_big := bw_T 784 (by decide +kernel) (by decide +kernel)
theorem bw_lL_177 : Cond.methodLink RL 177 yX6_read ∈ bt_big := bw_T 1218 (by decide +kernel) (by decide +kernel)
theorem bw_lL_178 : Cond.methodLink RL 178 yX5_torn ∈ bt_big := bw_T 788 (by decide +kernel) (by decide +kernel)
theorem bw_lL_181 : Cond.methodLink RL 181 yX6_torn ∈ bt_big := bw_T 1223 (by decide +kernel) (by decide +kernel)
theorem bw_lL_182 : Cond.methodLink RL 182 yX5_count ∈ bt_big := bw_T 792 (by decide +kernel) (by decide +kernel)
theorem bw_lL_185 : Cond.methodLink RL 185 yX6_count ∈ bt_big := bw_T 1227 (by decide +kernel) (by decide +kernel)
theorem bw_an : Cond.native arraycopyName ∈ bt_big := bw_T 463 (by decide +kernel) (by decide +kernel)
theorem bw_as : Cond.static arraycopyName ∈ bt_big := bw_T 462 (by decide +kernel) (by decide +kernel)
theorem bw_az : Cond.initialized "java/lang/System" ∈ bt_big := bw_T 12 (by decide +kernel) (by decide +kernel)
theorem bw_fX0 : bt_okF RX0 bt_FX0 := List.forall_mem_cons.mpr ⟨(fun r hr => by
    have e := Option.some.inj (show some (RX4, TX4, 18) = some r from hr)
    subst e
    exact bw_T 43 (by decide +kernel) (by decide +kernel)), List.forall_mem_cons.mpr ⟨(fun r hr => by
    have e := Option.some.inj (show some (RX4, TX4, 18) = some r from hr)
    subst e
    exact bw_T 62 (by decide +kernel) (by decide +kernel)), List.forall_mem_cons.mpr ⟨(fun r hr => by
    have e := Option.some.inj (show some (RX4, TX4, 18) = some r from hr)
    subst e
    exact bw_T 66 (by decide +kernel) (by decide +kernel)), List.forall_mem_cons.mpr ⟨(fun r hr => by
    have e := Option.some.inj (show some (RX4, TX4, 18) = some r from hr)
    subst e
    exact bw_T 81 (by decide +kernel) (by decide +kernel)), List.forall_mem_cons.mpr ⟨(fun r hr => by
    have e := Option.some.inj (show some (RX4, TX4, 18) = some r from hr)
    subst e
    exact bw_T 86 (by decide +kernel) (by decide +kernel)), List.forall_mem_cons.mpr ⟨(fun r hr => by
    have e := Option.some.inj (show some (RX4, TX4, 18) = some r from hr)
    subst e
    exact bw_T 97 (by decide +kernel) (by decide +kernel)), List.forall_mem_cons.mpr ⟨(fun r hr => by
    have e := Option.some.inj (show some (RX0, TX0, 11) = some r from hr)
    subst e
    exact bw_T 218 (by decide +kernel) (by decide +kernel)), List.forall_mem_cons.mpr ⟨(fun r hr => by
    have e := Option.some.inj (show some (RX0, TX0, 11) = some r from hr)
    subst e
    exact bw_T 219 (by decide +kernel) (by decide +kernel)), List.forall_mem_cons.mpr ⟨(fun r hr => by
    have e := Option.some.inj (show some (RX0, TX0, 11) = some r from hr)
    subst e
    exact bw_T 220 (by decide +kernel) (by decide +kernel)), List.forall_mem_cons.mpr ⟨(fun r hr => by
    have e := Option.some.inj (show some (RX0, TX0, 11) = some r from hr)
    subst e
    exact bw_T 221 (by decide +kernel) (by decide +kernel)), List.forall_mem_cons.mpr ⟨(fun r hr => by
    have e := Option.some.inj (show some (RX0, TX0, 11) = some r from hr)
    subst e
    exact bw_T 222 (by decide +kernel) (by decide +kernel)), List.forall_mem_cons.mpr ⟨(fun r hr => by
    have e := Option.some.inj (show some (RX0, TX0, 11) = some r from hr)
    subst e
    exact bw_T 223 (by decide +kernel) (by decide +kernel)), List.forall_mem_cons.mpr ⟨(fun r hr => by
    have e := Option.some.inj (show some (RX0, TX0, 11) = some r from hr)
    subst e
    exact bw_T 225 (by decide +kernel) (by decide +kernel)), List.forall_mem_cons.mpr ⟨(fun r hr => by
    have e := Option.some.inj (show some (RX0, TX0, 11) = some r from hr)
    subst e
    exact bw_T 227 (by decide +kernel) (by decide +kernel)), List.forall_mem_cons.mpr ⟨(fun r hr => by
    have e := Option.some.inj (show some (RX0, TX0, 11) = some r from hr)
    subst e
    exact bw_T 229 (by decide +kernel) (by decide +kernel)), List.forall_mem_cons.mpr ⟨(fun r hr => by
    have e := Option.some.inj (show some (RX0, TX0, 11) = some r from hr)
    subst e
    exact bw_T 231 (by decide +kernel) (by decide +kernel)), List.forall_mem_cons.mpr ⟨(fun r hr => by
    have e := Option.some.inj (show some (RX0, TX0, 11) = some r from hr)
    subst e
    exact bw_T 233 (by decide +kernel) (by decide +kernel)), fun _ h => absurd h List.not_mem_nil⟩⟩⟩⟩⟩⟩⟩⟩⟩⟩⟩⟩⟩⟩⟩⟩⟩
theorem bw_fX1 : bt_okF RX1 bt_FX1 := List.forall_mem_cons.mpr ⟨(fun r hr => by
    have e := Option.some.inj (show some (RX4, TX4, 18) = some r from hr)
    subst e
    exact bw_T 36 (by decide +kernel) (by decide +kernel)), List.forall_mem_cons.mpr ⟨(fun r hr => by
    have e := Option.some.inj (show some (RX4, TX4, 18) = some r from hr)
    subst e
    exact bw_T 44 (by decide +kernel) (by decide +kernel)), List.forall_mem_cons.mpr ⟨(fun r hr => by
    have e := Option.some.inj (show some (RX4, TX4, 18) = some r from hr)
    subst e
    exact bw_T 48 (by decide +kernel) (by decide +kernel)), List.forall_mem_cons.mpr ⟨(fun r hr => by
    have e := Option.some.inj (show some (RX4, TX4, 18) = some r from hr)
    subst e
    exact bw_T 58 (by decide +kernel) (by decide +kernel)), List.forall_mem_cons.mpr ⟨(fun r hr => by
    have e := Option.some.inj (show some (RX4, TX4, 18) = some r from hr)
    subst e
    exact bw_T 63 (by decide +kernel) (by decide +kernel)), List.forall_mem_cons.mpr ⟨(fun r hr => by
    have e := Option.some.inj (show some (RX4, TX4, 18) = some r from hr)
    subst e
    exact bw_T 68 (by decide +kernel) (by decide +kernel)), List.forall_mem_cons.mpr ⟨(fun r hr => by
    have e := Option.some.inj (show some (RX4, TX4, 18) = some r from hr)
    subst e
    exact bw_T 80 (by decide +kernel) (by decide +kernel)), List.forall_mem_cons.mpr ⟨(fun r hr => by
    have e := Option.some.inj (show some (RX4, TX4, 18) = some r from hr)
    subst e
    exact bw_T 85 (by decide +kernel) (by decide +kernel)), List.forall_mem_cons.mpr ⟨(fun r hr => by
    have e := Option.some.inj (show some (RX4, TX4, 18) = some r from hr)
    subst e
    exact bw_T 90 (by decide +kernel) (by decide +kernel)), List.forall_mem_cons.mpr ⟨(fun r hr => by
    have e := Option.some.inj (show some (RX4, TX4, 18) = some r from hr)
    subst e
    exact bw_T 95 (by decide +kernel) (by decide +kernel)), List.forall_mem_cons.mpr ⟨(fun r hr => by
    have e := Option.some.inj (show some (RX1, TX1, 4) = some r from hr)
    subst e
    exact bw_T 264 (by decide +kernel) (by decide +kernel)), List.forall_mem_cons.mpr ⟨(fun r hr => by
    have e := Option.some.inj (show some (RX1, TX1, 4) = some r from hr)
    subst e
    exact bw_T 265 (by decide +kernel) (by decide +kernel)), List.forall_mem_cons.mpr ⟨(fun r hr => by
    have e := Option.some.inj (show some (RX1, TX1, 4) = some r from hr)
    subst e
    exact bw_T 266 (by decide +kernel) (by decide +kernel)), List.forall_mem_cons.mpr ⟨(fun r hr => by
    have e := Option.some.inj (show some (RX1, TX1, 4) = some r from hr)
    subst e
    exact bw_T 268 (by decide +kernel) (by decide +kernel)), fun _ h => absurd h List.not_mem_nil⟩⟩⟩⟩⟩⟩⟩⟩⟩⟩⟩⟩⟩⟩
theorem bw_fX2 : bt_okF RX2 bt_FX2 := List.forall_mem_cons.mpr ⟨(fun r hr => by
    have e := Option.some.inj (show some (RX2, TX2, 3) = some r from hr)
    subst e
    exact bw_T 197 (by decide +kernel) (by decide +kernel)), List.forall_mem_cons.mpr ⟨(fun r hr => by
    have e := Option.some.inj (show some (RX2, TX2, 3) = some r from hr)
    subst e
    exact bw_T 199 (by decide +kernel) (by decide +kernel)), List.forall_mem_cons.mpr ⟨(fun r hr => by
    have e := Option.some.inj (show some (RX2, TX2, 3) = some r from hr)
    subst e
    exact bw_T 201 (by decide +kernel) (by decide +kernel)), fun _ h => absurd h List.not_mem_nil⟩⟩⟩
theorem bw_fX3 : bt_okF RX3 bt_FX3 := List.forall_mem_cons.mpr ⟨(fun r hr => by
    have e := Option.some.inj (show some (RX4, TX4, 18) = some r from hr)
    subst e
    exact bw_T 38 (by decide +kernel) (by decide +kernel)), List.forall_mem_cons.mpr ⟨(fun r hr => by
    have e := Option.some.inj (show some (RX4, TX4, 18) = some r from hr)
    subst e
    exact bw_T 41 (by decide +kernel) (by decide +kernel)), List.forall_mem_cons.mpr ⟨(fun r hr => by
    have e := Option.some.inj (show some (RX4, TX4, 18) = some r from hr)
    subst e
    exact bw_T 46 (by decide +kernel) (by decide +kernel)), List.forall_mem_cons.mpr ⟨(fun r hr => by
    have e := Option.some.inj (show some (RX4, TX4, 18) = some r from hr)
    subst e
    exact bw_T 50 (by decide +kernel) (by decide +kernel)), List.forall_mem_cons.mpr ⟨(fun r hr => by
    have e := Option.some.inj (show some (RX4, TX4, 18) = some r from hr)
    subst e
    exact bw_T 53 (by decide +kernel) (by decide +kernel)), List.forall_mem_cons.mpr ⟨(fun r hr => by
    have e := Option.some.inj (show some (RX4, TX4, 18) = some r from hr)
    subst e
    exact bw_T 56 (by decide +kernel) (by decide +kernel)), List.forall_mem_cons.mpr ⟨(fun r hr => by
    have e := Option.some.inj (show some (RX4, TX4, 18) = some r from hr)
    subst e
    exact bw_T 60 (by decide +kernel) (by decide +kernel)), List.forall_mem_cons.mpr ⟨(fun r hr => by
    have e := Option.some.inj (show some (RX4, TX4, 18) = some r from hr)
    subst e
    exact bw_T 67 (by decide +kernel) (by decide +kernel)), List.forall_mem_cons.mpr ⟨(fun r hr => by
    have e := Option.some.inj (show some (RX4, TX4, 18) = some r from hr)
    subst e
    exact bw_T 71 (by decide +kernel) (by decide +kernel)), List.forall_mem_cons.mpr ⟨(fun r hr => by
    have e := Option.some.inj (show some (RX4, TX4, 18) = some r from hr)
    subst e
    exact bw_T 74 (by decide +kernel) (by decide +kernel)), List.forall_mem_cons.mpr ⟨(fun r hr => by
    have e := Option.some.inj (show some (RX4, TX4, 18) = some r from hr)
    subst e
    exact bw_T 77 (by decide +kernel) (by decide +kernel)), List.forall_mem_cons.mpr ⟨(fun r hr => by
    have e := Option.some.inj (show some (RX4, TX4, 18) = some r from hr)
    subst e
    exact bw_T 83 (by decide +kernel) (by decide +kernel)), List.forall_mem_cons.mpr ⟨(fun r hr => by
    have e := Option.some.inj (show some (RX4, TX4, 18) = some r from hr)
    subst e
    exact bw_T 91 (by decide +kernel) (by decide +kernel)), List.forall_mem_cons.mpr ⟨(fun r hr => by
    have e := Option.some.inj (show some (RX4, TX4, 18) = some r from hr)
    subst e
    exact bw_T 94 (by decide +kernel) (by decide +kernel)), List.forall_mem_cons.mpr ⟨(fun r hr => by
    have e := Option.some.inj (show some (RX3, TX3, 14) = some r from hr)
    subst e
    exact bw_T 140 (by decide +kernel) (by decide +kernel)), List.forall_mem_cons.mpr ⟨(fun r hr => by
    have e := Option.some.inj (show some (RX3, TX3, 14) = some r from hr)
    subst e
    exact bw_T 141 (by decide +kernel) (by decide +kernel)), List.forall_mem_cons.mpr ⟨(fun r hr => by
    have e := Option.some.inj (show some (RX3, TX3, 14) = some r from hr)
    subst e
    exact bw_T 143 (by decide +kernel) (by decide +kernel)), List.forall_mem_cons.mpr ⟨(fun r hr => by
    have e := Option.some.inj (show some (RX3, TX3, 14) = some r from hr)
    subst e
    exact bw_T 145 (by decide +kernel) (by decide +kernel)), List.forall_mem_cons.mpr ⟨(fun r hr => by
    have e := Option.some.inj (show some (RX3, TX3, 14) = some r from hr)
    subst e
    exact bw_T 147 (by decide +kernel) (by decide +kernel)), List.forall_mem_cons.mpr ⟨(fun r hr => by
    have e := Option.some.inj (show some (RX3, TX3, 14) = some r from hr)
    subst e
    exact bw_T 149 (by decide +kernel) (by decide +kernel)), List.forall_mem_cons.mpr ⟨(fun r hr => by
    have e := Option.some.inj (show some (RX3, TX3, 14) = some r from hr)
    subst e
    exact bw_T 150 (by decide +kernel) (by decide +kernel)), List.forall_mem_cons.mpr ⟨(fun r hr => by
    have e := Option.some.inj (show some (RX3, TX3, 14) = some r from hr)
    subst e
    exact bw_T 151 (by decide +kernel) (by decide +kernel)), List.forall_mem_cons.mpr ⟨(fun r hr => by
    have e := Option.some.inj (show some (RX3, TX3, 14) = some r from hr)
    subst e
    exact bw_T 152 (by decide +kernel) (by decide +kernel)), List.forall_mem_cons.mpr ⟨(fun r hr => by
    have e := Option.some.inj (show some (RX3, TX3, 14) = some r from hr)
    subst e
    exact bw_T 153 (by decide +kernel) (by decide +kernel)), List.forall_mem_cons.mpr ⟨(fun r hr => by
    have e := Option.some.inj (show some (RX3, TX3, 14) = some r from hr)
    subst e
    exact bw_T 154 (by decide +kernel) (by decide +kernel)), List.forall_mem_cons.mpr ⟨(fun r hr => by
    have e := Option.some.inj (show some (RX3, TX3, 14) = some r from hr)
    subst e
    exact bw_T 155 (by decide +kernel) (by decide +kernel)), List.forall_mem_cons.mpr ⟨(fun r hr => by
    have e := Option.some.inj (show some (RX3, TX3, 14) = some r from hr)
    subst e
    exact bw_T 156 (by decide +kernel) (by decide +kernel)), List.forall_mem_cons.mpr ⟨(fun r hr => by
    have e := Option.some.inj (show some (RX3, TX3, 14) = some r from hr)
    subst e
    exact bw_T 157 (by decide +kernel) (by decide +kernel)), fun _ h => absurd h List.not_mem_nil⟩⟩⟩⟩⟩⟩⟩⟩⟩⟩⟩⟩⟩⟩⟩⟩⟩⟩⟩⟩⟩⟩⟩⟩⟩⟩⟩⟩
theorem bw_fX4 : bt_okF RX4 bt_FX4 := List.forall_mem_cons.mpr ⟨(fun r hr => by
    have e := Option.some.inj (show some (RX4, TX4, 18) = some r from hr)
    subst e
    exact bw_T 35 (by decide +kernel) (by decide +kernel)), List.forall_mem_cons.mpr ⟨(fun r hr => by
    have e := Option.some.inj (show some (RX4, TX4, 18) = some r from hr)
    subst e
    exact bw_T 39 (by decide +kernel) (by decide +kernel)), List.forall_mem_cons.mpr ⟨(fun r hr => by
    have e := Option.some.inj (show some (RX4, TX4, 18) = some r from hr)
    subst e
    exact bw_T 42 (by decide +kernel) (by decide +kernel)), List.forall_mem_cons.mpr ⟨(fun r hr => by
    have e := Option.some.inj (show some (RX4, TX4, 18) = some r from hr)
    subst e
    exact bw_T 47 (by decide +kernel) (by decide +kernel)), List.forall_mem_cons.mpr ⟨(fun r hr => by
    have e := Option.some.inj (show some (RX4, TX4, 18) = some r from hr)
    subst e
    exact bw_T 51 (by decide +kernel) (by decide +kernel)), List.forall_mem_cons.mpr ⟨(fun r hr => by
    have e := Option.some.inj (show some (RX4, TX4, 18) = some r from hr)
    subst e
    exact bw_T 54 (by decide +kernel) (by decide +kernel)), List.forall_mem_cons.mpr ⟨(fun r hr => by
    have e := Option.some.inj (show some (RX4, TX4, 18) = some r from hr)
    subst e
    exact bw_T 57 (by decide +kernel) (by decide +kernel)), List.forall_mem_cons.mpr ⟨(fun r hr => by
    have e := Option.some.inj (show some (RX4, TX4, 18) = some r from hr)
    subst e
    exact bw_T 61 (by decide +kernel) (by decide +kernel)), List.forall_mem_cons.mpr ⟨(fun r hr => by
    have e := Option.some.inj (show some (RX4, TX4, 18) = some r from hr)
    subst e
    exact bw_T 65 (by decide +kernel) (by decide +kernel)), List.forall_mem_cons.mpr ⟨(fun r hr => by
    have e := Option.some.inj (show some (RX4, TX4, 18) = some r from hr)
    subst e
    exact bw_T 70 (by decide +kernel) (by decide +kernel)), List.forall_mem_cons.mpr ⟨(fun r hr => by
    have e := Option.some.inj (show some (RX4, TX4, 18) = some r from hr)
    subst e
    exact bw_T 73 (by decide +kernel) (by decide +kernel)), List.forall_mem_cons.mpr ⟨(fun r hr => by
    have e := Option.some.inj (show some (RX4, TX4, 18) = some r from hr)
    subst e
    exact bw_T 76 (by decide +kernel) (by decide +kernel)), List.forall_mem_cons.mpr ⟨(fun r hr => by
    have e := Option.some.inj (show some (RX4, TX4, 18) = some r from hr)
    subst e
    exact bw_T 79 (by decide +kernel) (by decide +kernel)), List.forall_mem_cons.mpr ⟨(fun r hr => by
    have e := Option.some.inj (show some (RX4, TX4, 18) = some r from hr)
    subst e
    exact bw_T 84 (by decide +kernel) (by decide +kernel)), List.forall_mem_cons.mpr ⟨(fun r hr => by
    have e := Option.some.inj (show some (RX4, TX4, 18) = some r from hr)
    subst e
    exact bw_T 88 (by decide +kernel) (by decide +kernel)), List.forall_mem_cons.mpr ⟨(fun r hr => by
    have e := Option.some.inj (show some (RX4, TX4, 18) = some r from hr)
    subst e
    exact bw_T 92 (by decide +kernel) (by decide +kernel)), List.forall_mem_cons.mpr ⟨(fun r hr => by
    have e := Option.some.inj (show some (RX4, TX4, 18) = some r from hr)
    subst e
    exact bw_T 96 (by decide +kernel) (by decide +kernel)), List.forall_mem_cons.mpr ⟨(fun r hr => by
    have e := Option.some.inj (show some (RX4, TX4, 18) = some r from hr)
    subst e
    exact bw_T 99 (by decide +kernel) (by decide +kernel)), fun _ h => absurd h List.not_mem_nil⟩⟩⟩⟩⟩⟩⟩⟩⟩⟩⟩⟩⟩⟩⟩⟩⟩⟩
theorem bw_fX5 : bt_okF RX5 bt_FX5 := List.forall_mem_cons.mpr ⟨(fun r hr => by
    have e := Option.some.inj (show some (RX4, TX4, 18) = some r from hr)
    subst e
    exact bw_T 37 (by decide +kernel) (by decide +kernel)), List.forall_mem_cons.mpr ⟨(fun r hr => by
    have e := Option.some.inj (show some (RX4, TX4, 18) = some r from hr)
    subst e
    exact bw_T 40 (by decide +kernel) (by decide +kernel)), List.forall_mem_cons.mpr ⟨(fun r hr => by
    have e := Option.some.inj (show some (RX4, TX4, 18) = some r from hr)
    subst e
    exact bw_T 45 (by decide +kernel) (by decide +kernel)), List.forall_mem_cons.mpr ⟨(fun r hr => by
    have e := Option.some.inj (show some (RX4, TX4, 18) = some r from hr)
    subst e
    exact bw_T 49 (by decide +kernel) (by decide +kernel)), List.forall_mem_cons.mpr ⟨(fun r hr => by
    have e := Option.some.inj (show some (RX4, TX4, 18) = some r from hr)
    subst e
    exact bw_T 52 (by decide +kernel) (by decide +kernel)), List.forall_mem_cons.mpr ⟨(fun r hr => by
    have e := Option.some.inj (show some (RX4, TX4, 18) = some r from hr)
    subst e
    exact bw_T 55 (by decide +kernel) (by decide +kernel)), List.forall_mem_cons.mpr ⟨(fun r hr => by
    have e := Option.some.inj (show some (RX4, TX4, 18) = some r from hr)
    subst e
    exact bw_T 59 (by decide +kernel) (by decide +kernel)), List.forall_mem_cons.mpr ⟨(fun r hr => by
    have e := Option.some.inj (show some (RX4, TX4, 18) = some r from hr)
    subst e
    exact bw_T 64 (by decide +kernel) (by decide +kernel)), List.forall_mem_cons.mpr ⟨(fun r hr => by
    have e := Option.some.inj (show some (RX4, TX4, 18) = some r from hr)
    subst e
    exact bw_T 69 (by decide +kernel) (by decide +kernel)), List.forall_mem_cons.mpr ⟨(fun r hr => by
    have e := Option.some.inj (show some (RX4, TX4, 18) = some r from hr)
    subst e
    exact bw_T 72 (by decide +kernel) (by decide +kernel)), List.forall_mem_cons.mpr ⟨(fun r hr => by
    have e := Option.some.inj (show some (RX4, TX4, 18) = some r from hr)
    subst e
    exact bw_T 75 (by decide +kernel) (by decide +kernel)), List.forall_mem_cons.mpr ⟨(fun r hr => by
    have e := Option.some.inj (show some (RX4, TX4, 18) = some r from hr)
    subst e
    exact bw_T 78 (by decide +kernel) (by decide +kernel)), List.forall_mem_cons.mpr ⟨(fun r hr => by
    have e := Option.some.inj (show some (RX4, TX4, 18) = some r from hr)
    subst e
    exact bw_T 82 (by decide +kernel) (by decide +kernel)), List.forall_mem_cons.mpr ⟨(fun r hr => by
    have e := Option.some.inj (show some (RX4, TX4, 18) = some r from hr)
    subst e
    exact bw_T 87 (by decide +kernel) (by decide +kernel)), List.forall_mem_cons.mpr ⟨(fun r hr => by
    have e := Option.some.inj (show some (RX4, TX4, 18) = some r from hr)
    subst e
    exact bw_T 89 (by decide +kernel) (by decide +kernel)), List.forall_mem_cons.mpr ⟨(fun r hr => by
    have e := Option.some.inj (show some (RX4, TX4, 18) = some r from hr)
    subst e
    exact bw_T 93 (by decide +kernel) (by decide +kernel)), List.forall_mem_cons.mpr ⟨(fun r hr => by
    have e := Option.some.inj (show some (RX4, TX4, 18) = some r from hr)
    subst e
    exact bw_T 98 (by decide +kernel) (by decide +kernel)), List.forall_mem_cons.mpr ⟨(fun r hr => by
    have e := Option.some.inj (show some (RX4, TX4, 18) = some r from hr)
    subst e
    exact bw_T 100 (by decide +kernel) (by decide +kernel)), List.forall_mem_cons.mpr ⟨(fun r hr => by
    have e := Option.some.inj (show some (RX3, TX3, 14) = some r from hr)
    subst e
    exact bw_T 142 (by decide +kernel) (by decide +kernel)), List.forall_mem_cons.mpr ⟨(fun r hr => by
    have e := Option.some.inj (show some (RX3, TX3, 14) = some r from hr)
    subst e
    exact bw_T 144 (by decide +kernel) (by decide +kernel)), List.forall_mem_cons.mpr ⟨(fun r hr => by
    have e := Option.some.inj (show some (RX3, TX3, 14) = some r from hr)
    subst e
    exact bw_T 146 (by decide +kernel) (by decide +kernel)), List.forall_mem_cons.mpr ⟨(fun r hr => by
    have e := Option.some.inj (show some (RX3, TX3, 14) = some r from hr)
    subst e
    exact bw_T 148 (by decide +kernel) (by decide +kernel)), List.forall_mem_cons.mpr ⟨(fun r hr => by
    have e := Option.some.inj (show some (RX2, TX2, 3) = some r from hr)
    subst e
    exact bw_T 198 (by decide +kernel) (by decide +kernel)), List.forall_mem_cons.mpr ⟨(fun r hr => by
    have e := Option.some.inj (show some (RX2, TX2, 3) = some r from hr)
    subst e
    exact bw_T 200 (by decide +kernel) (by decide +kernel)), List.forall_mem_cons.mpr ⟨(fun r hr => by
    have e := Option.some.inj (show some (RX2, TX2, 3) = some r from hr)
    subst e
    exact bw_T 202 (by decide +kernel) (by decide +kernel)), List.forall_mem_cons.mpr ⟨(fun r hr => by
    have e := Option.some.inj (show some (RX0, TX0, 11) = some r from hr)
    subst e
    exact bw_T 224 (by decide +kernel) (by decide +kernel)), List.forall_mem_cons.mpr ⟨(fun r hr => by
    have e := Option.some.inj (show some (RX0, TX0, 11) = some r from hr)
    subst e
    exact bw_T 226 (by decide +kernel) (by decide +kernel)), List.forall_mem_cons.mpr ⟨(fun r hr => by
    have e := Option.some.inj (show some (RX0, TX0, 11) = some r from hr)
    subst e
    exact bw_T 228 (by decide +kernel) (by decide +kernel)), List.forall_mem_cons.mpr ⟨(fun r hr => by
    have e := Option.some.inj (show some (RX0, TX0, 11) = some r from hr)
    subst e
    exact bw_T 230 (by decide +kernel) (by decide +kernel)), List.forall_mem_cons.mpr ⟨(fun r hr => by
    have e := Option.some.inj (show some (RX0, TX0, 11) = some r from hr)
    subst e
    exact bw_T 232 (by decide +kernel) (by decide +kernel)), List.forall_mem_cons.mpr ⟨(fun r hr => by
    have e := Option.some.inj (show some (RX0, TX0, 11) = some r from hr)
    subst e
    exact bw_T 234 (by decide +kernel) (by decide +kernel)), List.forall_mem_cons.mpr ⟨(fun r hr => by
    have e := Option.some.inj (show some (RX1, TX1, 4) = some r from hr)
    subst e
    exact bw_T 267 (by decide +kernel) (by decide +kernel)), List.forall_mem_cons.mpr ⟨(fun r hr => by
    have e := Option.some.inj (show some (RX1, TX1, 4) = some r from hr)
    subst e
    exact bw_T 269 (by decide +kernel) (by decide +kernel)), List.forall_mem_cons.mpr ⟨(fun r hr => by
    have e := Option.some.inj (show some (RX5, TX5, 9) = some r from hr)
    subst e
    exact bw_T 280 (by decide +kernel) (by decide +kernel)), List.forall_mem_cons.mpr ⟨(fun r hr => by
    have e := Option.some.inj (show some (RX5, TX5, 9) = some r from hr)
    subst e
    exact bw_T 281 (by decide +kernel) (by decide +kernel)), List.forall_mem_cons.mpr ⟨(fun r hr => by
    have e := Option.some.inj (show some (RX5, TX5, 9) = some r from hr)
    subst e
    exact bw_T 282 (by decide +kernel) (by decide +kernel)), List.forall_mem_cons.mpr ⟨(fun r hr => by
    have e := Option.some.inj (show some (RX5, TX5, 9) = some r from hr)
    subst e
    exact bw_T 283 (by decide +kernel) (by decide +kernel)), List.forall_mem_cons.mpr ⟨(fun r hr => by
    have e := Option.some.inj (show some (RX5, TX5, 9) = some r from hr)
    subst e
    exact bw_T 284 (by decide +kernel) (by decide +kernel)), List.forall_mem_cons.mpr ⟨(fun r hr => by
    have e := Option.some.inj (show some (RX5, TX5, 9) = some r from hr)
    subst e
    exact bw_T 285 (by decide +kernel) (by decide +kernel)), List.forall_mem_cons.mpr ⟨(fun r hr => by
    have e := Option.some.inj (show some (RX5, TX5, 9) = some r from hr)
    subst e
    exact bw_T 286 (by decide +kernel) (by decide +kernel)), List.forall_mem_cons.mpr ⟨(fun r hr => by
    have e := Option.some.inj (show some (RX5, TX5, 9) = some r from hr)
    subst e
    exact bw_T 287 (by decide +kernel) (by decide +kernel)), List.forall_mem_cons.mpr ⟨(fun r hr => by
    have e := Option.some.inj (show some (RX5, TX5, 9) = some r from hr)
    subst e
    exact bw_T 288 (by decide +kernel) (by decide +kernel)), fun _ h => absurd h List.not_mem_nil⟩⟩⟩⟩⟩⟩⟩⟩⟩⟩⟩⟩⟩⟩⟩⟩⟩⟩⟩⟩⟩⟩⟩⟩⟩⟩⟩⟩⟩⟩⟩⟩⟩⟩⟩⟩⟩⟩⟩⟩⟩⟩
theorem bw_fX6 : bt_okF RX6 bt_FX6 := List.forall_mem_cons.mpr ⟨(fun r hr => by
    have e := Option.some.inj (show some (RX6, TX6, 27) = some r from hr)
    subst e
    exact bw_T 807 (by decide +kernel) (by decide +kernel)), List.forall_mem_cons.mpr ⟨(fun r hr => by
    have e := Option.some.inj (show some (RX6, TX6, 27) = some r from hr)
    subst e
    exact bw_T 808 (by decide +kernel) (by decide +kernel)), List.forall_mem_cons.mpr ⟨(fun r hr => by
    have e := Option.some.inj (show some (RX6, TX6, 27) = some r from hr)
    subst e
    exact bw_T 809 (by decide +kernel) (by decide +kernel)), List.forall_mem_cons.mpr ⟨(fun r hr => by
    have e := Option.some.inj (show some (RX6, TX6, 27) = some r from hr)
    subst e
    exact bw_T 810 (by decide +kernel) (by decide +kernel)), List.forall_mem_cons.mpr ⟨(fun r hr => by
    have e := Option.some.inj (show some (RX6, TX6, 27) = some r from hr)
    subst e
    exact bw_T 811 (by decide +kernel) (by decide +kernel)), List.forall_mem_cons.mpr ⟨(fun r hr => by
    have e := Option.some.inj (show some (RX6, TX6, 27) = some r from hr)
    subst e
    exact bw_T 812 (by decide +kernel) (by decide +kernel)), List.forall_mem_cons.mpr ⟨(fun r hr => by
    have e := Option.some.inj (show some (RX6, TX6, 27) = some r from hr)
    subst e
    exact bw_T 813 (by decide +kernel) (by decide +kernel)), List.forall_mem_cons.mpr ⟨(fun r hr => by
    have e := Option.some.inj (show some (RX6, TX6, 27) = some r from hr)
    subst e
    exact bw_T 814 (by decide +kernel) (by decide +kernel)), List.forall_mem_cons.mpr ⟨(fun r hr => by
    have e := Option.some.inj (show some (RX6, TX6, 27) = some r from hr)
    subst e
    exact bw_T 815 (by decide +kernel) (by decide +kernel)), List.forall_mem_cons.mpr ⟨(fun r hr => by
    have e := Option.some.inj (show some (RX6, TX6, 27) = some r from hr)
    subst e
    exact bw_T 816 (by decide +kernel) (by decide +kernel)), List.forall_mem_cons.mpr ⟨(fun r hr => by
    have e := Option.some.inj (show some (RX6, TX6, 27) = some r from hr)
    subst e
    exact bw_T 817 (by decide +kernel) (by decide +kernel)), List.forall_mem_cons.mpr ⟨(fun r hr => by
    have e := Option.some.inj (show some (RX6, TX6, 27) = some r from hr)
    subst e
    exact bw_T 818 (by decide +kernel) (by decide +kernel)), List.forall_mem_cons.mpr ⟨(fun r hr => by
    have e := Option.some.inj (show some (RX6, TX6, 27) = some r from hr)
    subst e
    exact bw_T 819 (by decide +kernel) (by decide +kernel)), List.forall_mem_cons.mpr ⟨(fun r hr => by
    have e := Option.some.inj (show some (RX6, TX6, 27) = some r from hr)
    subst e
    exact bw_T 820 (by decide +kernel) (by decide +kernel)), List.forall_mem_cons.mpr ⟨(fun r hr => by
    have e := Option.some.inj (show some (RX6, TX6, 27) = some r from hr)
    subst e
    exact bw_T 821 (by decide +kernel) (by decide +kernel)), List.forall_mem_cons.mpr ⟨(fun r hr => by
    have e := Option.some.inj (show some (RX6, TX6, 27) = some r from hr)
    subst e
    exact bw_T 822 (by decide +kernel) (by decide +kernel)), List.forall_mem_cons.mpr ⟨(fun r hr => by
    have e := Option.some.inj (show some (RX6, TX6, 27) = some r from hr)
    subst e
    exact bw_T 823 (by decide +kernel) (by decide +kernel)), List.forall_mem_cons.mpr ⟨(fun r hr => by
    have e := Option.some.inj (show some (RX6, TX6, 27) = some r from hr)
    subst e
    exact bw_T 824 (by decide +kernel) (by decide +kernel)), List.forall_mem_cons.mpr ⟨(fun r hr => by
    have e := Option.some.inj (show some (RX6, TX6, 27) = some r from hr)
    subst e
    exact bw_T 825 (by decide +kernel) (by decide +kernel)), List.forall_mem_cons.mpr ⟨(fun r hr => by
    have e := Option.some.inj (show some (RX6, TX6, 27) = some r from hr)
    subst e
    exact bw_T 826 (by decide +kernel) (by decide +kernel)), List.forall_mem_cons.mpr ⟨(fun r hr => by
    have e := Option.some.inj (show some (RX6, TX6, 27) = some r from hr)
    subst e
    exact bw_T 827 (by decide +kernel) (by decide +kernel)), List.forall_mem_cons.mpr ⟨(fun r hr => by
    have e := Option.some.inj (show some (RX6, TX6, 27) = some r from hr)
    subst e
    exact bw_T 828 (by decide +kernel) (by decide +kernel)), List.forall_mem_cons.mpr ⟨(fun r hr => by
    have e := Option.some.inj (show some (RX6, TX6, 27) = some r from hr)
    subst e
    exact bw_T 829 (by decide +kernel) (by decide +kernel)), List.forall_mem_cons.mpr ⟨(fun r hr => by
    have e := Option.some.inj (show some (RX6, TX6, 27) = some r from hr)
    subst e
    exact bw_T 830 (by decide +kernel) (by decide +kernel)), List.forall_mem_cons.mpr ⟨(fun r hr => by
    have e := Option.some.inj (show some (RX6, TX6, 27) = some r from hr)
    subst e
    exact bw_T 831 (by decide +kernel) (by decide +kernel)), List.forall_mem_cons.mpr ⟨(fun r hr => by
    have e := Option.some.inj (show some (RX6, TX6, 27) = some r from hr)
    subst e
    exact bw_T 832 (by decide +kernel) (by decide +kernel)), List.forall_mem_cons.mpr ⟨(fun r hr => by
    have e := Option.some.inj (show some (RX6, TX6, 27) = some r from hr)
    subst e
    exact bw_T 833 (by decide +kernel) (by decide +kernel)), fun _ h => absurd h List.not_mem_nil⟩⟩⟩⟩⟩⟩⟩⟩⟩⟩⟩⟩⟩⟩⟩⟩⟩⟩⟩⟩⟩⟩⟩⟩⟩⟩⟩
