/-! THE WORDS OF THE CALLS, 2 -/
theorem bw_dX5_car : yX5_car.cls ≠ "java/lang/invoke/MethodHandle" ∧ yX5_car.cls ≠ "java/lang/invoke/VarHandle" ∧ (parseMethodDescriptor yX5_car.desc).map (fun d => d.parameters.length) = some 2 := by decide +kernel
theorem bw_cX5_use : Cond.code yX5_use cX5_use 3 (some .int) ∈ bt_big := bw_T 511 (by decide +kernel) (by decide +kernel)
theorem bw_iX5_use : Cond.instanceMethod yX5_use ∈ bt_big := bw_T 509 (by decide +kernel) (by decide +kernel)
theorem bw_sX5_use : Cond.selects RX5 yX5_use yX5_use ∈ bt_big := bw_T 510 (by decide +kernel) (by decide +kernel)
theorem bw_dX5_use : yX5_use.cls ≠ "java/lang/invoke/MethodHandle" ∧ yX5_use.cls ≠ "java/lang/invoke/VarHandle" ∧ (parseMethodDescriptor yX5_use.desc).map (fun d => d.parameters.length) = some 2 := by decide +kernel
theorem bw_cX5_exchange : Cond.code yX5_exchange cX5_exchange 4 (some .int) ∈ bt_big := bw_T 528 (by decide +kernel) (by decide +kernel)
theorem bw_iX5_exchange : Cond.static yX5_exchange ∈ bt_big := bw_T 527 (by decide +kernel) (by decide +kernel)
theorem bw_dX5_exchange : yX5_exchange.cls ≠ "java/lang/invoke/MethodHandle" ∧ yX5_exchange.cls ≠ "java/lang/invoke/VarHandle" ∧ (parseMethodDescriptor yX5_exchange.desc).map (fun d => d.parameters.length) = some 3 := by decide +kernel
theorem bw_cX5_gap : Cond.code yX5_gap cX5_gap 3 (some .int) ∈ bt_big := bw_T 525 (by decide +kernel) (by decide +kernel)
theorem bw_iX5_gap : Cond.instanceMethod yX5_gap ∈ bt_big := bw_T 523 (by decide +kernel) (by decide +kernel)
theorem bw_sX5_gap : Cond.selects RX5 yX5_gap yX5_gap ∈ bt_big := bw_T 524 (by decide +kernel) (by decide +kernel)
theorem bw_dX5_gap : yX5_gap.cls ≠ "java/lang/invoke/MethodHandle" ∧ yX5_gap.cls ≠ "java/lang/invoke/VarHandle" ∧ (parseMethodDescriptor yX5_gap.desc).map (fun d => d.parameters.length) = some 2 := by decide +kernel
theorem bw_cX5_sight : Cond.code yX5_sight cX5_sight 3 (some .int) ∈ bt_big := bw_T 532 (by decide +kernel) (by decide +kernel)
theorem bw_iX5_sight : Cond.instanceMethod yX5_sight ∈ bt_big := bw_T 530 (by decide +kernel) (by decide +kernel)
theorem bw_sX5_sight : Cond.selects RX5 yX5_sight yX5_sight ∈ bt_big := bw_T 531 (by decide +kernel) (by decide +kernel)
theorem bw_dX5_sight : yX5_sight.cls ≠ "java/lang/invoke/MethodHandle" ∧ yX5_sight.cls ≠ "java/lang/invoke/VarHandle" ∧ (parseMethodDescriptor yX5_sight.desc).map (fun d => d.parameters.length) = some 2 := by decide +kernel
theorem bw_cX5_odd : Cond.code yX5_odd cX5_odd 3 (some .int) ∈ bt_big := bw_T 536 (by decide +kernel) (by decide +kernel)
theorem bw_iX5_odd : Cond.instanceMethod yX5_odd ∈ bt_big := bw_T 534 (by decide +kernel) (by decide +kernel)
theorem bw_sX5_odd : Cond.selects RX5 yX5_odd yX5_odd ∈ bt_big := bw_T 535 (by decide +kernel) (by decide +kernel)
theorem bw_dX5_odd : yX5_odd.cls ≠ "java/lang/invoke/MethodHandle" ∧ yX5_odd.cls ≠ "java/lang/invoke/VarHandle" ∧ (parseMethodDescriptor yX5_odd.desc).map (fun d => d.parameters.length) = some 2 := by decide +kernel
theorem bw_cX5_withBit : Cond.code yX5_withBit cX5_withBit 3 (some .int) ∈ bt_big := bw_T 543 (by decide +kernel) (by decide +kernel)
theorem bw_iX5_withBit : Cond.static yX5_withBit ∈ bt_big := bw_T 542 (by decide +kernel) (by decide +kernel)
theorem bw_dX5_withBit : yX5_withBit.cls ≠ "java/lang/invoke/MethodHandle" ∧ yX5_withBit.cls ≠ "java/lang/invoke/VarHandle" ∧ (parseMethodDescriptor yX5_withBit.desc).map (fun d => d.parameters.length) = some 3 := by decide +kernel
theorem bw_cX5_build : Cond.code yX5_build cX5_build 5 (some .int) ∈ bt_big := bw_T 540 (by decide +kernel) (by decide +kernel)
theorem bw_iX5_build : Cond.instanceMethod yX5_build ∈ bt_big := bw_T 538 (by decide +kernel) (by decide +kernel)
theorem bw_sX5_build : Cond.selects RX5 yX5_build yX5_build ∈ bt_big := bw_T 539 (by decide +kernel) (by decide +kernel)
theorem bw_dX5_build : yX5_build.cls ≠ "java/lang/invoke/MethodHandle" ∧ yX5_build.cls ≠ "java/lang/invoke/VarHandle" ∧ (parseMethodDescriptor yX5_build.desc).map (fun d => d.parameters.length) = some 3 := by decide +kernel
theorem bw_cX5_polite : Cond.code yX5_polite cX5_polite 3 (some .int) ∈ bt_big := bw_T 547 (by decide +kernel) (by decide +kernel)
theorem bw_iX5_polite : Cond.instanceMethod yX5_polite ∈ bt_big := bw_T 545 (by decide +kernel) (by decide +kernel)
theorem bw_sX5_polite : Cond.selects RX5 yX5_polite yX5_polite ∈ bt_big := bw_T 546 (by decide +kernel) (by decide +kernel)
theorem bw_dX5_polite : yX5_polite.cls ≠ "java/lang/invoke/MethodHandle" ∧ yX5_polite.cls ≠ "java/lang/invoke/VarHandle" ∧ (parseMethodDescriptor yX5_polite.desc).map (fun d => d.parameters.length) = some 1 := by decide +kernel
theorem bw_cX5_teach : Cond.code yX5_teach cX5_teach 4 (some .int) ∈ bt_big := bw_T 551 (by decide +kernel) (by decide +kernel)
theorem bw_iX5_teach : Cond.instanceMethod yX5_teach ∈ bt_big := bw_T 549 (by decide +kernel) (by decide +kernel)
theorem bw_sX5_teach : Cond.selects RX5 yX5_teach yX5_teach ∈ bt_big := bw_T 550 (by decide +kernel) (by decide +kernel)
theorem bw_dX5_teach : yX5_teach.cls ≠ "java/lang/invoke/MethodHandle" ∧ yX5_teach.cls ≠ "java/lang/invoke/VarHandle" ∧ (parseMethodDescriptor yX5_teach.desc).map (fun d => d.parameters.length) = some 3 := by decide +kernel
theorem bw_cX5_drive : Cond.code yX5_drive cX5_drive 2 (some .int) ∈ bt_big := bw_T 555 (by decide +kernel) (by decide +kernel)
theorem bw_iX5_drive : Cond.instanceMethod yX5_drive ∈ bt_big := bw_T 553 (by decide +kernel) (by decide +kernel)
theorem bw_sX5_drive : Cond.selects RX5 yX5_drive yX5_drive ∈ bt_big := bw_T 554 (by decide +kernel) (by decide +kernel)
theorem bw_dX5_drive : yX5_drive.cls ≠ "java/lang/invoke/MethodHandle" ∧ yX5_drive.cls ≠ "java/lang/invoke/VarHandle" ∧ (parseMethodDescriptor yX5_drive.desc).map (fun d => d.parameters.length) = some 1 := by decide +kernel
theorem bw_cX5_on : Cond.code yX5_on cX5_on 1 (some .int) ∈ bt_big := bw_T 580 (by decide +kernel) (by decide +kernel)
theorem bw_iX5_on : Cond.instanceMethod yX5_on ∈ bt_big := bw_T 578 (by decide +kernel) (by decide +kernel)
theorem bw_sX5_on : Cond.selects RX5 yX5_on yX5_on ∈ bt_big := bw_T 579 (by decide +kernel) (by decide +kernel)
theorem bw_dX5_on : yX5_on.cls ≠ "java/lang/invoke/MethodHandle" ∧ yX5_on.cls ≠ "java/lang/invoke/VarHandle" ∧ (parseMethodDescriptor yX5_on.desc).map (fun d => d.parameters.length) = some 0 := by decide +kernel
theorem bw_cX5_ahead : Cond.code yX5_ahead cX5_ahead 4 (some .int) ∈ bt_big := bw_T 584 (by decide +kernel) (by decide +kernel)
theorem bw_iX5_ahead : Cond.instanceMethod yX5_ahead ∈ bt_big := bw_T 582 (by decide +kernel) (by decide +kernel)
theorem bw_sX5_ahead : Cond.selects RX5 yX5_ahead yX5_ahead ∈ bt_big := bw_T 583 (by decide +kernel) (by decide +kernel)
theorem bw_dX5_ahead : yX5_ahead.cls ≠ "java/lang/invoke/MethodHandle" ∧ yX5_ahead.cls ≠ "java/lang/invoke/VarHandle" ∧ (parseMethodDescriptor yX5_ahead.desc).map (fun d => d.parameters.length) = some 2 := by decide +kernel
theorem bw_cX5_tail : Cond.code yX5_tail cX5_tail 4 (some .int) ∈ bt_big := bw_T 597 (by decide +kernel) (by decide +kernel)
theorem bw_iX5_tail : Cond.instanceMethod yX5_tail ∈ bt_big := bw_T 595 (by decide +kernel) (by decide +kernel)
theorem bw_sX5_tail : Cond.selects RX5 yX5_tail yX5_tail ∈ bt_big := bw_T 596 (by decide +kernel) (by decide +kernel)
theorem bw_dX5_tail : yX5_tail.cls ≠ "java/lang/invoke/MethodHandle" ∧ yX5_tail.cls ≠ "java/lang/invoke/VarHandle" ∧ (parseMethodDescriptor yX5_tail.desc).map (fun d => d.parameters.length) = some 1 := by decide +kernel
theorem bw_cX5_lost : Cond.code yX5_lost cX5_lost 2 (some .int) ∈ bt_big := bw_T 603 (by decide +kernel) (by decide +kernel)
theorem bw_iX5_lost : Cond.instanceMethod yX5_lost ∈ bt_big := bw_T 601 (by decide +kernel) (by decide +kernel)
theorem bw_sX5_lost : Cond.selects RX5 yX5_lost yX5_lost ∈ bt_big := bw_T 602 (by decide +kernel) (by decide +kernel)
theorem bw_dX5_lost : yX5_lost.cls ≠ "java/lang/invoke/MethodHandle" ∧ yX5_lost.cls ≠ "java/lang/invoke/VarHandle" ∧ (parseMethodDescriptor yX5_lost.desc).map (fun d => d.parameters.length) = some 0 := by decide +kernel
theorem bw_cX5_lowest : Cond.code yX5_lowest cX5_lowest 12 (some .long) ∈ bt_big := bw_T 632 (by decide +kernel) (by decide +kernel)
theorem bw_iX5_lowest : Cond.static yX5_lowest ∈ bt_big := bw_T 631 (by decide +kernel) (by decide +kernel)
theorem bw_dX5_lowest : yX5_lowest.cls ≠ "java/lang/invoke/MethodHandle" ∧ yX5_lowest.cls ≠ "java/lang/invoke/VarHandle" ∧ (parseMethodDescriptor yX5_lowest.desc).map (fun d => d.parameters.length) = some 3 := by decide +kernel
theorem bw_cX5_past : Cond.code yX5_past cX5_past 3 (some .long) ∈ bt_big := bw_T 608 (by decide +kernel) (by decide +kernel)
theorem bw_iX5_past : Cond.instanceMethod yX5_past ∈ bt_big := bw_T 606 (by decide +kernel) (by decide +kernel)
theorem bw_sX5_past : Cond.selects RX5 yX5_past yX5_past ∈ bt_big := bw_T 607 (by decide +kernel) (by decide +kernel)
theorem bw_dX5_past : yX5_past.cls ≠ "java/lang/invoke/MethodHandle" ∧ yX5_past.cls ≠ "java/lang/invoke/VarHandle" ∧ (parseMethodDescriptor yX5_past.desc).map (fun d => d.parameters.length) = some 2 := by decide +kernel
theorem bw_cX5_mean : Cond.code yX5_mean cX5_mean 5 (some .long) ∈ bt_big := bw_T 636 (by decide +kernel) (by decide +kernel)
theorem bw_iX5_mean : Cond.instanceMethod yX5_mean ∈ bt_big := bw_T 634 (by decide +kernel) (by decide +kernel)
theorem bw_sX5_mean : Cond.selects RX5 yX5_mean yX5_mean ∈ bt_big := bw_T 635 (by decide +kernel) (by decide +kernel)
theorem bw_dX5_mean : yX5_mean.cls ≠ "java/lang/invoke/MethodHandle" ∧ yX5_mean.cls ≠ "java/lang/invoke/VarHandle" ∧ (parseMethodDescriptor yX5_mean.desc).map (fun d => d.parameters.length) = some 2 := by decide +kernel
theorem bw_cX5_row : Cond.code yX5_row cX5_row 5 (some .long) ∈ bt_big := bw_T 645 (by decide +kernel) (by decide +kernel)
theorem bw_iX5_row : Cond.instanceMethod yX5_row ∈ bt_big := bw_T 643 (by decide +kernel) (by decide +kernel)
theorem bw_sX5_row : Cond.selects RX5 yX5_row yX5_row ∈ bt_big := bw_T 644 (by decide +kernel) (by decide +kernel)
theorem bw_dX5_row : yX5_row.cls ≠ "java/lang/invoke/MethodHandle" ∧ yX5_row.cls ≠ "java/lang/invoke/VarHandle" ∧ (parseMethodDescriptor yX5_row.desc).map (fun d => d.parameters.length) = some 1 := by decide +kernel
theorem bw_cX5_where : Cond.code yX5_where cX5_where 6 (some .long) ∈ bt_big := bw_T 649 (by decide +kernel) (by decide +kernel)
theorem bw_iX5_where : Cond.instanceMethod yX5_where ∈ bt_big := bw_T 647 (by decide +kernel) (by decide +kernel)
theorem bw_sX5_where : Cond.selects RX5 yX5_where yX5_where ∈ bt_big := bw_T 648 (by decide +kernel) (by decide +kernel)
theorem bw_dX5_where : yX5_where.cls ≠ "java/lang/invoke/MethodHandle" ∧ yX5_where.cls ≠ "java/lang/invoke/VarHandle" ∧ (parseMethodDescriptor yX5_where.desc).map (fun d => d.parameters.length) = some 3 := by decide +kernel
theorem bw_cX5_cost : Cond.code yX5_cost cX5_cost 4 (some .int) ∈ bt_big := bw_T 655 (by decide +kernel) (by decide +kernel)
theorem bw_iX5_cost : Cond.instanceMethod yX5_cost ∈ bt_big := bw_T 653 (by decide +kernel) (by decide +kernel)
theorem bw_sX5_cost : Cond.selects RX5 yX5_cost yX5_cost ∈ bt_big := bw_T 654 (by decide +kernel) (by decide +kernel)
theorem bw_dX5_cost : yX5_cost.cls ≠ "java/lang/invoke/MethodHandle" ∧ yX5_cost.cls ≠ "java/lang/invoke/VarHandle" ∧ (parseMethodDescriptor yX5_cost.desc).map (fun d => d.parameters.length) = some 1 := by decide +kernel
theorem bw_cX5_bestPlace : Cond.code yX5_bestPlace cX5_bestPlace 8 (some .int) ∈ bt_big := bw_T 663 (by decide +kernel) (by decide +kernel)
theorem bw_iX5_bestPlace : Cond.instanceMethod yX5_bestPlace ∈ bt_big := bw_T 662 (by decide +kernel) (by decide +kernel)
theorem bw_sX5_bestPlace : Cond.selects RX5 yX5_bestPlace yX5_bestPlace ∈ bt_big := bt_bigN 16 (by decide +kernel) (by decide +kernel)
theorem bw_dX5_bestPlace : yX5_bestPlace.cls ≠ "java/lang/invoke/MethodHandle" ∧ yX5_bestPlace.cls ≠ "java/lang/invoke/VarHandle" ∧ (parseMethodDescriptor yX5_bestPlace.desc).map (fun d => d.parameters.length) = some 2 := by decide +kernel
theorem bw_cX5_third : Cond.code yX5_third cX5_third 2 (some .int) ∈ bt_big := bw_T 659 (by decide +kernel) (by decide +kernel)
theorem bw_iX5_third : Cond.instanceMethod yX5_third ∈ bt_big := bw_T 657 (by decide +kernel) (by decide +kernel)
theorem bw_sX5_third : Cond.selects RX5 yX5_third yX5_third ∈ bt_big := bw_T 658 (by decide +kernel) (by decide +kernel)
theorem bw_dX5_third : yX5_third.cls ≠ "java/lang/invoke/MethodHandle" ∧ yX5_third.cls ≠ "java/lang/invoke/VarHandle" ∧ (parseMethodDescriptor yX5_third.desc).map (fun d => d.parameters.length) = some 1 := by decide +kernel
theorem bw_cX5_layby : Cond.code yX5_layby cX5_layby 2 (some .int) ∈ bt_big := bw_T 667 (by decide +kernel) (by decide +kernel)
theorem bw_iX5_layby : Cond.instanceMethod yX5_layby ∈ bt_big := bw_T 665 (by decide +kernel) (by decide +kernel)
theorem bw_sX5_layby : Cond.selects RX5 yX5_layby yX5_layby ∈ bt_big := bw_T 666 (by decide +kernel) (by decide +kernel)
theorem bw_dX5_layby : yX5_layby.cls ≠ "java/lang/invoke/MethodHandle" ∧ yX5_layby.cls ≠ "java/lang/invoke/VarHandle" ∧ (parseMethodDescriptor yX5_layby.desc).map (fun d => d.parameters.length) = some 1 := by decide +kernel
theorem bw_cX5_fair : Cond.code yX5_fair cX5_fair 6 (some .int) ∈ bt_big := bw_T 671 (by decide +kernel) (by decide +kernel)
theorem bw_iX5_fair : Cond.instanceMethod yX5_fair ∈ bt_big := bw_T 669 (by decide +kernel) (by decide +kernel)
theorem bw_sX5_fair : Cond.selects RX5 yX5_fair yX5_fair ∈ bt_big := bw_T 670 (by decide +kernel) (by decide +kernel)
theorem bw_dX5_fair : yX5_fair.cls ≠ "java/lang/invoke/MethodHandle" ∧ yX5_fair.cls ≠ "java/lang/invoke/VarHandle" ∧ (parseMethodDescriptor yX5_fair.desc).map (fun d => d.parameters.length) = some 1 := by decide +kernel
theorem bw_cX5_need : Cond.code yX5_need cX5_need 3 (some .int) ∈ bt_big := bw_T 675 (by decide +kernel) (by decide +kernel)
theorem bw_iX5_need : Cond.instanceMethod yX5_need ∈ bt_big := bw_T 673 (by decide +kernel) (by decide +kernel)
theorem bw_sX5_need : Cond.selects RX5 yX5_need yX5_need ∈ bt_big := bw_T 674 (by decide +kernel) (by decide +kernel)
theorem bw_dX5_need : yX5_need.cls ≠ "java/lang/invoke/MethodHandle" ∧ yX5_need.cls ≠ "java/lang/invoke/VarHandle" ∧ (parseMethodDescriptor yX5_need.desc).map (fun d => d.parameters.length) = some 1 := by decide +kernel
theorem bw_cX5_dare : Cond.code yX5_dare cX5_dare 6 (some .long) ∈ bt_big := bw_T 679 (by decide +kernel) (by decide +kernel)
theorem bw_iX5_dare : Cond.instanceMethod yX5_dare ∈ bt_big := bw_T 677 (by decide +kernel) (by decide +kernel)
theorem bw_sX5_dare : Cond.selects RX5 yX5_dare yX5_dare ∈ bt_big := bw_T 678 (by decide +kernel) (by decide +kernel)
theorem bw_dX5_dare : yX5_dare.cls ≠ "java/lang/invoke/MethodHandle" ∧ yX5_dare.cls ≠ "java/lang/invoke/VarHandle" ∧ (parseMethodDescriptor yX5_dare.desc).map (fun d => d.parameters.length) = some 2 := by decide +kernel
theorem bw_cX5_see : Cond.code yX5_see cX5_see 3 (some .int) ∈ bt_big := bw_T 700 (by decide +kernel) (by decide +kernel)
theorem bw_iX5_see : Cond.instanceMethod yX5_see ∈ bt_big := bw_T 698 (by decide +kernel) (by decide +kernel)
theorem bw_sX5_see : Cond.selects RX5 yX5_see yX5_see ∈ bt_big := bw_T 699 (by decide +kernel) (by decide +kernel)
theorem bw_dX5_see : yX5_see.cls ≠ "java/lang/invoke/MethodHandle" ∧ yX5_see.cls ≠ "java/lang/invoke/VarHandle" ∧ (parseMethodDescriptor yX5_see.desc).map (fun d => d.parameters.length) = some 2 := by decide +kernel
theorem bw_cX5_forget : Cond.code yX5_forget cX5_forget 3 (some .int) ∈ bt_big := bw_T 708 (by decide +kernel) (by decide +kernel)
theorem bw_iX5_forget : Cond.instanceMethod yX5_forget ∈ bt_big := bw_T 706 (by decide +kernel) (by decide +kernel)
theorem bw_sX5_forget : Cond.selects RX5 yX5_forget yX5_forget ∈ bt_big := bw_T 707 (by decide +kernel) (by decide +kernel)
theorem bw_dX5_forget : yX5_forget.cls ≠ "java/lang/invoke/MethodHandle" ∧ yX5_forget.cls ≠ "java/lang/invoke/VarHandle" ∧ (parseMethodDescriptor yX5_forget.desc).map (fun d => d.parameters.length) = some 1 := by decide +kernel
theorem bw_cX5_fits : Cond.code yX5_fits cX5_fits 2 (some .int) ∈ bt_big := bw_T 712 (by decide +kernel) (by decide +kernel)
theorem bw_iX5_fits : Cond.instanceMethod yX5_fits ∈ bt_big := bw_T 710 (by decide +kernel) (by decide +kernel)
theorem bw_sX5_fits : Cond.selects RX5 yX5_fits yX5_fits ∈ bt_big := bw_T 711 (by decide +kernel) (by decide +kernel)
theorem bw_dX5_fits : yX5_fits.cls ≠ "java/lang/invoke/MethodHandle" ∧ yX5_fits.cls ≠ "java/lang/invoke/VarHandle" ∧ (parseMethodDescriptor yX5_fits.desc).map (fun d => d.parameters.length) = some 1 := by decide +kernel
theorem bw_cX5_could : Cond.code yX5_could cX5_could 1 (some .int) ∈ bt_big := bw_T 742 (by decide +kernel) (by decide +kernel)
theorem bw_iX5_could : Cond.instanceMethod yX5_could ∈ bt_big := bw_T 740 (by decide +kernel) (by decide +kernel)
theorem bw_sX5_could : Cond.selects RX5 yX5_could yX5_could ∈ bt_big := bw_T 741 (by decide +kernel) (by decide +kernel)
theorem bw_dX5_could : yX5_could.cls ≠ "java/lang/invoke/MethodHandle" ∧ yX5_could.cls ≠ "java/lang/invoke/VarHandle" ∧ (parseMethodDescriptor yX5_could.desc).map (fun d => d.parameters.length) = some 0 := by decide +kernel
theorem bw_cX5_drift : Cond.code yX5_drift cX5_drift 5 (some .int) ∈ bt_big := bw_T 746 (by decide +kernel) (by decide +kernel)
theorem bw_iX5_drift : Cond.instanceMethod yX5_drift ∈ bt_big := bw_T 744 (by decide +kernel) (by decide +kernel)
theorem bw_sX5_drift : Cond.selects RX5 yX5_drift yX5_drift ∈ bt_big := bw_T 745 (by decide +kernel) (by decide +kernel)
theorem bw_dX5_drift : yX5_drift.cls ≠ "java/lang/invoke/MethodHandle" ∧ yX5_drift.cls ≠ "java/lang/invoke/VarHandle" ∧ (parseMethodDescriptor yX5_drift.desc).map (fun d => d.parameters.length) = some 2 := by decide +kernel
theorem bw_cX5_keep : Cond.code yX5_keep cX5_keep 3 (some .int) ∈ bt_big := bw_T 752 (by decide +kernel) (by decide +kernel)
theorem bw_iX5_keep : Cond.instanceMethod yX5_keep ∈ bt_big := bw_T 750 (by decide +kernel) (by decide +kernel)
theorem bw_sX5_keep : Cond.selects RX5 yX5_keep yX5_keep ∈ bt_big := bw_T 751 (by decide +kernel) (by decide +kernel)
theorem bw_dX5_keep : yX5_keep.cls ≠ "java/lang/invoke/MethodHandle" ∧ yX5_keep.cls ≠ "java/lang/invoke/VarHandle" ∧ (parseMethodDescriptor yX5_keep.desc).map (fun d => d.parameters.length) = some 1 := by decide +kernel
theorem bw_cX5_back : Cond.code yX5_back cX5_back 2 (some .int) ∈ bt_big := bw_T 756 (by decide +kernel) (by decide +kernel)
theorem bw_iX5_back : Cond.instanceMethod yX5_back ∈ bt_big := bw_T 754 (by decide +kernel) (by decide +kernel)
theorem bw_sX5_back : Cond.selects RX5 yX5_back yX5_back ∈ bt_big := bw_T 755 (by decide +kernel) (by decide +kernel)
theorem bw_dX5_back : yX5_back.cls ≠ "java/lang/invoke/MethodHandle" ∧ yX5_back.cls ≠ "java/lang/invoke/VarHandle" ∧ (parseMethodDescriptor yX5_back.desc).map (fun d => d.parameters.length) = some 1 := by decide +kernel
theorem bw_cX5_isSheet : Cond.code yX5_isSheet cX5_isSheet 1 (some .boolean) ∈ bt_big := bw_T 763 (by decide +kernel) (by decide +kernel)
theorem bw_iX5_isSheet : Cond.static yX5_isSheet ∈ bt_big := bw_T 762 (by decide +kernel) (by decide +kernel)
theorem bw_dX5_isSheet : yX5_isSheet.cls ≠ "java/lang/invoke/MethodHandle" ∧ yX5_isSheet.cls ≠ "java/lang/invoke/VarHandle" ∧ (parseMethodDescriptor yX5_isSheet.desc).map (fun d => d.parameters.length) = some 1 := by decide +kernel
theorem bw_cX5_isLane : Cond.code yX5_isLane cX5_isLane 1 (some .boolean) ∈ bt_big := bw_T 766 (by decide +kernel) (by decide +kernel)
theorem bw_iX5_isLane : Cond.static yX5_isLane ∈ bt_big := bw_T 765 (by decide +kernel) (by decide +kernel)
theorem bw_dX5_isLane : yX5_isLane.cls ≠ "java/lang/invoke/MethodHandle" ∧ yX5_isLane.cls ≠ "java/lang/invoke/VarHandle" ∧ (parseMethodDescriptor yX5_isLane.desc).map (fun d => d.parameters.length) = some 1 := by decide +kernel
theorem bw_cX5_sheet : Cond.code yX5_sheet cX5_sheet 4 (some .int) ∈ bt_big := bw_T 760 (by decide +kernel) (by decide +kernel)
theorem bw_iX5_sheet : Cond.instanceMethod yX5_sheet ∈ bt_big := bw_T 758 (by decide +kernel) (by decide +kernel)
theorem bw_sX5_sheet : Cond.selects RX5 yX5_sheet yX5_sheet ∈ bt_big := bw_T 759 (by decide +kernel) (by decide +kernel)
theorem bw_dX5_sheet : yX5_sheet.cls ≠ "java/lang/invoke/MethodHandle" ∧ yX5_sheet.cls ≠ "java/lang/invoke/VarHandle" ∧ (parseMethodDescriptor yX5_sheet.desc).map (fun d => d.parameters.length) = some 3 := by decide +kernel
theorem bw_cX5_lay : Cond.code yX5_lay cX5_lay 6 (some .int) ∈ bt_big := bw_T 774 (by decide +kernel) (by decide +kernel)
theorem bw_iX5_lay : Cond.instanceMethod yX5_lay ∈ bt_big := bw_T 772 (by decide +kernel) (by decide +kernel)
theorem bw_sX5_lay : Cond.selects RX5 yX5_lay yX5_lay ∈ bt_big := bw_T 773 (by decide +kernel) (by decide +kernel)
theorem bw_dX5_lay : yX5_lay.cls ≠ "java/lang/invoke/MethodHandle" ∧ yX5_lay.cls ≠ "java/lang/invoke/VarHandle" ∧ (parseMethodDescriptor yX5_lay.desc).map (fun d => d.parameters.length) = some 3 := by decide +kernel
theorem bw_cX5_read : Cond.code yX5_read cX5_read 9 (some .int) ∈ bt_big := bw_T 787 (by decide +kernel) (by decide +kernel)
theorem bw_iX5_read : Cond.instanceMethod yX5_read ∈ bt_big := bw_T 785 (by decide +kernel) (by decide +kernel)
theorem bw_sX5_read : Cond.selects RX5 yX5_read yX5_read ∈ bt_big := bw_T 786 (by decide +kernel) (by decide +kernel)
theorem bw_dX5_read : yX5_read.cls ≠ "java/lang/invoke/MethodHandle" ∧ yX5_read.cls ≠ "java/lang/invoke/VarHandle" ∧ (parseMethodDescriptor yX5_read.desc).map (fun d => d.parameters.length) = some 4 := by decide +kernel
theorem bw_cX5_torn : Cond.code yX5_torn cX5_torn 1 (some .int) ∈ bt_big := bw_T 791 (by decide +kernel) (by decide +kernel)
theorem bw_iX5_torn : Cond.instanceMethod yX5_torn ∈ bt_big := bw_T 789 (by decide +kernel) (by decide +kernel)
theorem bw_sX5_torn : Cond.selects RX5 yX5_torn yX5_torn ∈ bt_big := bw_T 790 (by decide +kernel) (by decide +kernel)
theorem bw_dX5_torn : yX5_torn.cls ≠ "java/lang/invoke/MethodHandle" ∧ yX5_torn.cls ≠ "java/lang/invoke/VarHandle" ∧ (parseMethodDescriptor yX5_torn.desc).map (fun d => d.parameters.length) = some 0 := by decide +kernel
theorem bw_cX5_count : Cond.code yX5_count cX5_count 2 (some .int) ∈ bt_big := bw_T 795 (by decide +kernel) (by decide +kernel)
theorem bw_iX5_count : Cond.instanceMethod yX5_count ∈ bt_big := bw_T 793 (by decide +kernel) (by decide +kernel)
theorem bw_sX5_count : Cond.selects RX5 yX5_count yX5_count ∈ bt_big := bw_T 794 (by decide +kernel) (by decide +kernel)
theorem bw_dX5_count : yX5_count.cls ≠ "java/lang/invoke/MethodHandle" ∧ yX5_count.cls ≠ "java/lang/invoke/VarHandle" ∧ (parseMethodDescriptor yX5_count.desc).map (fun d => d.parameters.length) = some 1 := by decide +kernel
theorem bw_cX6_in : Cond.code yX6_in cX6_in 6 (some .boolean) ∈ bt_big := bw_T 897 (by decide +kernel) (by decide +kernel)
theorem bw_iX6_in : Cond.static yX6_in ∈ bt_big := bw_T 896 (by decide +kernel) (by decide +kernel)
theorem bw_dX6_in : yX6_in.cls ≠ "java/lang/invoke/MethodHandle" ∧ yX6_in.cls ≠ "java/lang/invoke/VarHandle" ∧ (parseMethodDescriptor yX6_in.desc).map (fun d => d.parameters.length) = some 3 := by decide +kernel
theorem bw_cX6_feed : Cond.code yX6_feed cX6_feed 2 (some .int) ∈ bt_big := bw_T 893 (by decide +kernel) (by decide +kernel)
theorem bw_iX6_feed : Cond.instanceMethod yX6_feed ∈ bt_big := bw_T 891 (by decide +kernel) (by decide +kernel)
theorem bw_sX6_feed : Cond.selects RX6 yX6_feed yX6_feed ∈ bt_big := bw_T 892 (by decide +kernel) (by decide +kernel)
theorem bw_dX6_feed : yX6_feed.cls ≠ "java/lang/invoke/MethodHandle" ∧ yX6_feed.cls ≠ "java/lang/invoke/VarHandle" ∧ (parseMethodDescriptor yX6_feed.desc).map (fun d => d.parameters.length) = some 1 := by decide +kernel
theorem bw_cX6_end : Cond.code yX6_end cX6_end 3 (some .int) ∈ bt_big := bw_T 901 (by decide +kernel) (by decide +kernel)
theorem bw_iX6_end : Cond.instanceMethod yX6_end ∈ bt_big := bw_T 899 (by decide +kernel) (by decide +kernel)
theorem bw_sX6_end : Cond.selects RX6 yX6_end yX6_end ∈ bt_big := bw_T 900 (by decide +kernel) (by decide +kernel)
theorem bw_dX6_end : yX6_end.cls ≠ "java/lang/invoke/MethodHandle" ∧ yX6_end.cls ≠ "java/lang/invoke/VarHandle" ∧ (parseMethodDescriptor yX6_end.desc).map (fun d => d.parameters.length) = some 1 := by decide +kernel
theorem bw_cX6_byteAt : Cond.code yX6_byteAt cX6_byteAt 2 (some .int) ∈ bt_big := bw_T 913 (by decide +kernel) (by decide +kernel)
theorem bw_iX6_byteAt : Cond.instanceMethod yX6_byteAt ∈ bt_big := bw_T 912 (by decide +kernel) (by decide +kernel)
theorem bw_sX6_byteAt : Cond.selects RX6 yX6_byteAt yX6_byteAt ∈ bt_big := bt_bigN 20 (by decide +kernel) (by decide +kernel)
theorem bw_dX6_byteAt : yX6_byteAt.cls ≠ "java/lang/invoke/MethodHandle" ∧ yX6_byteAt.cls ≠ "java/lang/invoke/VarHandle" ∧ (parseMethodDescriptor yX6_byteAt.desc).map (fun d => d.parameters.length) = some 1 := by decide +kernel
theorem bw_cX6_fails : Cond.code yX6_fails cX6_fails 2 none ∈ bt_big := bw_T 921 (by decide +kernel) (by decide +kernel)
theorem bw_iX6_fails : Cond.instanceMethod yX6_fails ∈ bt_big := bw_T 920 (by decide +kernel) (by decide +kernel)
theorem bw_sX6_fails : Cond.selects RX6 yX6_fails yX6_fails ∈ bt_big := bt_bigN 21 (by decide +kernel) (by decide +kernel)
theorem bw_dX6_fails : yX6_fails.cls ≠ "java/lang/invoke/MethodHandle" ∧ yX6_fails.cls ≠ "java/lang/invoke/VarHandle" ∧ (parseMethodDescriptor yX6_fails.desc).map (fun d => d.parameters.length) = some 1 := by decide +kernel
theorem bw_cX6_nameHere : Cond.code yX6_nameHere cX6_nameHere 4 (some .int) ∈ bt_big := bw_T 929 (by decide +kernel) (by decide +kernel)
theorem bw_iX6_nameHere : Cond.instanceMethod yX6_nameHere ∈ bt_big := bw_T 928 (by decide +kernel) (by decide +kernel)
theorem bw_sX6_nameHere : Cond.selects RX6 yX6_nameHere yX6_nameHere ∈ bt_big := bt_bigN 23 (by decide +kernel) (by decide +kernel)
theorem bw_dX6_nameHere : yX6_nameHere.cls ≠ "java/lang/invoke/MethodHandle" ∧ yX6_nameHere.cls ≠ "java/lang/invoke/VarHandle" ∧ (parseMethodDescriptor yX6_nameHere.desc).map (fun d => d.parameters.length) = some 0 := by decide +kernel
theorem bw_cX6_step : Cond.code yX6_step cX6_step 2 none ∈ bt_big := bw_T 909 (by decide +kernel) (by decide +kernel)
theorem bw_iX6_step : Cond.instanceMethod yX6_step ∈ bt_big := bw_T 908 (by decide +kernel) (by decide +kernel)
theorem bw_sX6_step : Cond.selects RX6 yX6_step yX6_step ∈ bt_big := bt_bigN 19 (by decide +kernel) (by decide +kernel)
theorem bw_dX6_step : yX6_step.cls ≠ "java/lang/invoke/MethodHandle" ∧ yX6_step.cls ≠ "java/lang/invoke/VarHandle" ∧ (parseMethodDescriptor yX6_step.desc).map (fun d => d.parameters.length) = some 0 := by decide +kernel
theorem bw_cX6_number : Cond.code yX6_number cX6_number 4 (some .int) ∈ bt_big := bw_T 938 (by decide +kernel) (by decide +kernel)
theorem bw_iX6_number : Cond.instanceMethod yX6_number ∈ bt_big := bw_T 937 (by decide +kernel) (by decide +kernel)
theorem bw_sX6_number : Cond.selects RX6 yX6_number yX6_number ∈ bt_big := bt_bigN 25 (by decide +kernel) (by decide +kernel)
theorem bw_dX6_number : yX6_number.cls ≠ "java/lang/invoke/MethodHandle" ∧ yX6_number.cls ≠ "java/lang/invoke/VarHandle" ∧ (parseMethodDescriptor yX6_number.desc).map (fun d => d.parameters.length) = some 2 := by decide +kernel
theorem bw_cX6_fresh : Cond.code yX6_fresh cX6_fresh 3 (some .int) ∈ bt_big := bw_T 946 (by decide +kernel) (by decide +kernel)
theorem bw_iX6_fresh : Cond.instanceMethod yX6_fresh ∈ bt_big := bw_T 945 (by decide +kernel) (by decide +kernel)
theorem bw_sX6_fresh : Cond.selects RX6 yX6_fresh yX6_fresh ∈ bt_big := bt_bigN 27 (by decide +kernel) (by decide +kernel)
theorem bw_dX6_fresh : yX6_fresh.cls ≠ "java/lang/invoke/MethodHandle" ∧ yX6_fresh.cls ≠ "java/lang/invoke/VarHandle" ∧ (parseMethodDescriptor yX6_fresh.desc).map (fun d => d.parameters.length) = some 1 := by decide +kernel
theorem bw_cX6_readCar : Cond.code yX6_readCar cX6_readCar 3 none ∈ bt_big := bw_T 942 (by decide +kernel) (by decide +kernel)
theorem bw_iX6_readCar : Cond.instanceMethod yX6_readCar ∈ bt_big := bw_T 941 (by decide +kernel) (by decide +kernel)
theorem bw_sX6_readCar : Cond.selects RX6 yX6_readCar yX6_readCar ∈ bt_big := bt_bigN 26 (by decide +kernel) (by decide +kernel)
theorem bw_dX6_readCar : yX6_readCar.cls ≠ "java/lang/invoke/MethodHandle" ∧ yX6_readCar.cls ≠ "java/lang/invoke/VarHandle" ∧ (parseMethodDescriptor yX6_readCar.desc).map (fun d => d.parameters.length) = some 0 := by decide +kernel
theorem bw_cX6_readMore : Cond.code yX6_readMore cX6_readMore 3 none ∈ bt_big := bw_T 934 (by decide +kernel) (by decide +kernel)
theorem bw_iX6_readMore : Cond.instanceMethod yX6_readMore ∈ bt_big := bw_T 933 (by decide +kernel) (by decide +kernel)
theorem bw_sX6_readMore : Cond.selects RX6 yX6_readMore yX6_readMore ∈ bt_big := bt_bigN 24 (by decide +kernel) (by decide +kernel)
theorem bw_dX6_readMore : yX6_readMore.cls ≠ "java/lang/invoke/MethodHandle" ∧ yX6_readMore.cls ≠ "java/lang/invoke/VarHandle" ∧ (parseMethodDescriptor yX6_readMore.desc).map (fun d => d.parameters.length) = some 1 := by decide +kernel
theorem bw_cX6_readLine : Cond.code yX6_readLine cX6_readLine 2 none ∈ bt_big := bw_T 925 (by decide +kernel) (by decide +kernel)
theorem bw_iX6_readLine : Cond.instanceMethod yX6_readLine ∈ bt_big := bw_T 924 (by decide +kernel) (by decide +kernel)
theorem bw_sX6_readLine : Cond.selects RX6 yX6_readLine yX6_readLine ∈ bt_big := bt_bigN 22 (by decide +kernel) (by decide +kernel)
theorem bw_dX6_readLine : yX6_readLine.cls ≠ "java/lang/invoke/MethodHandle" ∧ yX6_readLine.cls ≠ "java/lang/invoke/VarHandle" ∧ (parseMethodDescriptor yX6_readLine.desc).map (fun d => d.parameters.length) = some 0 := by decide +kernel
theorem bw_cX6_text : Cond.code yX6_text cX6_text 3 (some .int) ∈ bt_big := bw_T 905 (by decide +kernel) (by decide +kernel)
theorem bw_iX6_text : Cond.instanceMethod yX6_text ∈ bt_big := bw_T 903 (by decide +kernel) (by decide +kernel)
theorem bw_sX6_text : Cond.selects RX6 yX6_text yX6_text ∈ bt_big := bw_T 904 (by decide +kernel) (by decide +kernel)
theorem bw_dX6_text : yX6_text.cls ≠ "java/lang/invoke/MethodHandle" ∧ yX6_text.cls ≠ "java/lang/invoke/VarHandle" ∧ (parseMethodDescriptor yX6_text.desc).map (fun d => d.parameters.length) = some 0 := by decide +kernel
theorem bw_cX6_fault : Cond.code yX6_fault cX6_fault 1 (some .int) ∈ bt_big := bw_T 951 (by decide +kernel) (by decide +kernel)
theorem bw_iX6_fault : Cond.instanceMethod yX6_fault ∈ bt_big := bw_T 949 (by decide +kernel) (by decide +kernel)
theorem bw_sX6_fault : Cond.selects RX6 yX6_fault yX6_fault ∈ bt_big := bw_T 950 (by decide +kernel) (by decide +kernel)
theorem bw_dX6_fault : yX6_fault.cls ≠ "java/lang/invoke/MethodHandle" ∧ yX6_fault.cls ≠ "java/lang/invoke/VarHandle" ∧ (parseMethodDescriptor yX6_fault.desc).map (fun d => d.parameters.length) = some 0 := by decide +kernel
theorem bw_cX6_isRoad : Cond.code yX6_isRoad cX6_isRoad 2 (some .boolean) ∈ bt_big := bw_T 975 (by decide +kernel) (by decide +kernel)
theorem bw_iX6_isRoad : Cond.instanceMethod yX6_isRoad ∈ bt_big := bw_T 974 (by decide +kernel) (by decide +kernel)
theorem bw_sX6_isRoad : Cond.selects RX6 yX6_isRoad yX6_isRoad ∈ bt_big := bt_bigN 31 (by decide +kernel) (by decide +kernel)
theorem bw_dX6_isRoad : yX6_isRoad.cls ≠ "java/lang/invoke/MethodHandle" ∧ yX6_isRoad.cls ≠ "java/lang/invoke/VarHandle" ∧ (parseMethodDescriptor yX6_isRoad.desc).map (fun d => d.parameters.length) = some 1 := by decide +kernel
theorem bw_cX6_isCar : Cond.code yX6_isCar cX6_isCar 2 (some .boolean) ∈ bt_big := bw_T 983 (by decide +kernel) (by decide +kernel)
theorem bw_iX6_isCar : Cond.instanceMethod yX6_isCar ∈ bt_big := bw_T 982 (by decide +kernel) (by decide +kernel)
theorem bw_sX6_isCar : Cond.selects RX6 yX6_isCar yX6_isCar ∈ bt_big := bt_bigN 32 (by decide +kernel) (by decide +kernel)
theorem bw_dX6_isCar : yX6_isCar.cls ≠ "java/lang/invoke/MethodHandle" ∧ yX6_isCar.cls ≠ "java/lang/invoke/VarHandle" ∧ (parseMethodDescriptor yX6_isCar.desc).map (fun d => d.parameters.length) = some 1 := by decide +kernel
theorem bw_cX6_isPast : Cond.code yX6_isPast cX6_isPast 3 (some .boolean) ∈ bt_big := bw_T 967 (by decide +kernel) (by decide +kernel)
theorem bw_iX6_isPast : Cond.instanceMethod yX6_isPast ∈ bt_big := bw_T 966 (by decide +kernel) (by decide +kernel)
theorem bw_sX6_isPast : Cond.selects RX6 yX6_isPast yX6_isPast ∈ bt_big := bt_bigN 30 (by decide +kernel) (by decide +kernel)
theorem bw_dX6_isPast : yX6_isPast.cls ≠ "java/lang/invoke/MethodHandle" ∧ yX6_isPast.cls ≠ "java/lang/invoke/VarHandle" ∧ (parseMethodDescriptor yX6_isPast.desc).map (fun d => d.parameters.length) = some 2 := by decide +kernel
theorem bw_cX6_pastOn : Cond.code yX6_pastOn cX6_pastOn 4 (some .int) ∈ bt_big := bw_T 963 (by decide +kernel) (by decide +kernel)
theorem bw_iX6_pastOn : Cond.instanceMethod yX6_pastOn ∈ bt_big := bw_T 962 (by decide +kernel) (by decide +kernel)
theorem bw_sX6_pastOn : Cond.selects RX6 yX6_pastOn yX6_pastOn ∈ bt_big := bt_bigN 29 (by decide +kernel) (by decide +kernel)
theorem bw_dX6_pastOn : yX6_pastOn.cls ≠ "java/lang/invoke/MethodHandle" ∧ yX6_pastOn.cls ≠ "java/lang/invoke/VarHandle" ∧ (parseMethodDescriptor yX6_pastOn.desc).map (fun d => d.parameters.length) = some 1 := by decide +kernel
theorem bw_cX6_paceOn : Cond.code yX6_paceOn cX6_paceOn 2 (some .int) ∈ bt_big := bw_T 959 (by decide +kernel) (by decide +kernel)
theorem bw_iX6_paceOn : Cond.instanceMethod yX6_paceOn ∈ bt_big := bw_T 958 (by decide +kernel) (by decide +kernel)
theorem bw_sX6_paceOn : Cond.selects RX6 yX6_paceOn yX6_paceOn ∈ bt_big := bt_bigN 28 (by decide +kernel) (by decide +kernel)
theorem bw_dX6_paceOn : yX6_paceOn.cls ≠ "java/lang/invoke/MethodHandle" ∧ yX6_paceOn.cls ≠ "java/lang/invoke/VarHandle" ∧ (parseMethodDescriptor yX6_paceOn.desc).map (fun d => d.parameters.length) = some 1 := by decide +kernel
theorem bw_cX6_rule : Cond.code yX6_rule cX6_rule 2 (some .int) ∈ bt_big := bw_T 955 (by decide +kernel) (by decide +kernel)
theorem bw_iX6_rule : Cond.instanceMethod yX6_rule ∈ bt_big := bw_T 953 (by decide +kernel) (by decide +kernel)
theorem bw_sX6_rule : Cond.selects RX6 yX6_rule yX6_rule ∈ bt_big := bw_T 954 (by decide +kernel) (by decide +kernel)
theorem bw_dX6_rule : yX6_rule.cls ≠ "java/lang/invoke/MethodHandle" ∧ yX6_rule.cls ≠ "java/lang/invoke/VarHandle" ∧ (parseMethodDescriptor yX6_rule.desc).map (fun d => d.parameters.length) = some 1 := by decide +kernel
theorem bw_cX6_road : Cond.code yX6_road cX6_road 3 (some .int) ∈ bt_big := bw_T 971 (by decide +kernel) (by decide +kernel)
theorem bw_iX6_road : Cond.instanceMethod yX6_road ∈ bt_big := bw_T 969 (by decide +kernel) (by decide +kernel)
theorem bw_sX6_road : Cond.selects RX6 yX6_road yX6_road ∈ bt_big := bw_T 970 (by decide +kernel) (by decide +kernel)
theorem bw_dX6_road : yX6_road.cls ≠ "java/lang/invoke/MethodHandle" ∧ yX6_road.cls ≠ "java/lang/invoke/VarHandle" ∧ (parseMethodDescriptor yX6_road.desc).map (fun d => d.parameters.length) = some 2 := by decide +kernel
theorem bw_cX6_aheadOf : Cond.code yX6_aheadOf cX6_aheadOf 5 (some .int) ∈ bt_big := bw_T 988 (by decide +kernel) (by decide +kernel)
theorem bw_iX6_aheadOf : Cond.instanceMethod yX6_aheadOf ∈ bt_big := bw_T 987 (by decide +kernel) (by decide +kernel)
