theorem ml_X0_3 : Cond.methodLink RX0 3 objectInit ∈ gw := gwm 318 (by decide +kernel) rfl
theorem fd_X0_9 : FD RX0 9 1 0 true := ⟨_, _, _, cls_1, by decide, gwm 319 (by decide +kernel) rfl, rfl, fun _ => by first | rfl | contradiction⟩
theorem fd_X0_15 : FD RX0 15 1 1 true := ⟨_, _, _, cls_1, by decide, gwm 320 (by decide +kernel) rfl, rfl, fun _ => by first | rfl | contradiction⟩
theorem fd_X0_18 : FD RX0 18 1 2 true := ⟨_, _, _, cls_1, by decide, gwm 322 (by decide +kernel) rfl, rfl, fun _ => by first | rfl | contradiction⟩
theorem fd_X0_21 : FD RX0 21 1 3 true := ⟨_, _, _, cls_1, by decide, gwm 323 (by decide +kernel) rfl, rfl, fun _ => by first | rfl | contradiction⟩
theorem fd_X0_24 : FD RX0 24 1 4 true := ⟨_, _, _, cls_1, by decide, gwm 324 (by decide +kernel) rfl, rfl, fun _ => by first | rfl | contradiction⟩
theorem fd_X0_27 : FD RX0 27 1 5 true := ⟨_, _, _, cls_1, by decide, gwm 325 (by decide +kernel) rfl, rfl, fun _ => by first | rfl | contradiction⟩
theorem fd_X0_30 : FD RX0 30 1 6 false := ⟨_, _, _, cls_1, by decide, gwm 326 (by decide +kernel) rfl, rfl, fun _ => by first | rfl | contradiction⟩
theorem fd_X0_34 : FD RX0 34 1 7 false := ⟨_, _, _, cls_1, by decide, gwm 328 (by decide +kernel) rfl, rfl, fun _ => by first | rfl | contradiction⟩
theorem ml_X0_41 : Cond.methodLink RX0 41 yX0_give ∈ gw := gwm 582 (by decide +kernel) rfl
theorem cal_X0_give : Cal yX0_give cX0_give 5 none 2 := ⟨gwm 585 (by decide +kernel) rfl, gwm 75 (by decide +kernel) rfl, ⟨by decide, by decide, by decide +kernel⟩, by decide⟩
theorem im_X0_give : Cond.instanceMethod yX0_give ∈ gw := gwm 584 (by decide +kernel) rfl
theorem se_X0_give : Cond.selects RX0 yX0_give yX0_give ∈ gw := gwm 10 (by decide +kernel) rfl
theorem ay_X0_51 : Cond.methodLink RX0 51 arraycopyName ∈ gw := gwm 586 (by decide +kernel) rfl
theorem mm_X0_45 : Cond.methodLink RX0 45 Lib.Math.max.name ∈ gw := gwm 581 (by decide +kernel) rfl
theorem ml_X0_37 : Cond.methodLink RX0 37 yX0_greatestBid ∈ gw := gwm 577 (by decide +kernel) rfl
theorem cal_X0_greatestBid : Cal yX0_greatestBid cX0_greatestBid 4 (some .int) 1 := ⟨gwm 580 (by decide +kernel) rfl, gwm 75 (by decide +kernel) rfl, ⟨by decide, by decide, by decide +kernel⟩, by decide⟩
theorem im_X0_greatestBid : Cond.instanceMethod yX0_greatestBid ∈ gw := gwm 579 (by decide +kernel) rfl
theorem se_X0_greatestBid : Cond.selects RX0 yX0_greatestBid yX0_greatestBid ∈ gw := gwm 9 (by decide +kernel) rfl
theorem ml_X1_3 : Cond.methodLink RX1 3 objectInit ∈ gw := gwm 200 (by decide +kernel) rfl
theorem fd_X1_9 : FD RX1 9 2 0 false := ⟨_, _, _, cls_2, by decide, gwm 201 (by decide +kernel) rfl, rfl, fun _ => by first | rfl | contradiction⟩
theorem fd_X1_15 : FD RX1 15 2 1 false := ⟨_, _, _, cls_2, by decide, gwm 204 (by decide +kernel) rfl, rfl, fun _ => by first | rfl | contradiction⟩
theorem fd_X1_18 : FD RX1 18 2 2 false := ⟨_, _, _, cls_2, by decide, gwm 207 (by decide +kernel) rfl, rfl, fun _ => by first | rfl | contradiction⟩
theorem fd_X1_21 : FD RX1 21 2 3 false := ⟨_, _, _, cls_2, by decide, gwm 209 (by decide +kernel) rfl, rfl, fun _ => by first | rfl | contradiction⟩
theorem fd_X1_24 : FD RX1 24 2 4 false := ⟨_, _, _, cls_2, by decide, gwm 211 (by decide +kernel) rfl, rfl, fun _ => by first | rfl | contradiction⟩
theorem fd_X1_27 : FD RX1 27 2 5 false := ⟨_, _, _, cls_2, by decide, gwm 213 (by decide +kernel) rfl, rfl, fun _ => by first | rfl | contradiction⟩
theorem fd_X1_30 : FD RX1 30 2 6 false := ⟨_, _, _, cls_2, by decide, gwm 215 (by decide +kernel) rfl, rfl, fun _ => by first | rfl | contradiction⟩
theorem fd_X1_33 : FD RX1 33 2 7 false := ⟨_, _, _, cls_2, by decide, gwm 217 (by decide +kernel) rfl, rfl, fun _ => by first | rfl | contradiction⟩
theorem ml_X2_3 : Cond.methodLink RX2 3 objectInit ∈ gw := gwm 299 (by decide +kernel) rfl
theorem fd_X2_9 : FD RX2 9 3 0 true := ⟨_, _, _, cls_3, by decide, gwm 300 (by decide +kernel) rfl, rfl, fun _ => by first | rfl | contradiction⟩
theorem fd_X2_15 : FD RX2 15 3 1 true := ⟨_, _, _, cls_3, by decide, gwm 301 (by decide +kernel) rfl, rfl, fun _ => by first | rfl | contradiction⟩
theorem fd_X2_18 : FD RX2 18 3 2 true := ⟨_, _, _, cls_3, by decide, gwm 302 (by decide +kernel) rfl, rfl, fun _ => by first | rfl | contradiction⟩
theorem fd_X2_21 : FD RX2 21 3 3 false := ⟨_, _, _, cls_3, by decide, gwm 303 (by decide +kernel) rfl, rfl, fun _ => by first | rfl | contradiction⟩
theorem ml_X11_109 : Cond.methodLink RX11 109 yJ13_bitCount_95d88 ∈ gw := gwm 536 (by decide +kernel) rfl
theorem cal_J13_bitCount_95d88 : Cal yJ13_bitCount_95d88 cJ13_bitCount_95d88 2 (some .int) 1 := ⟨gwm 538 (by decide +kernel) rfl, gwm 89 (by decide +kernel) rfl, ⟨by decide, by decide, by decide +kernel⟩, by decide⟩
theorem sm_J13_bitCount_95d88 : Cond.static yJ13_bitCount_95d88 ∈ gw := gwm 537 (by decide +kernel) rfl
theorem mm_X2_90 : Cond.methodLink RX2 90 Lib.Math.abs.name ∈ gw := gwm 553 (by decide +kernel) rfl
theorem mm_sabs : Cond.static Lib.Math.abs.name ∈ gw := gwm 554 (by decide +kernel) rfl
theorem mm_cabs : Cond.code Lib.Math.abs.name Lib.Math.abs.code 1 (some .int) ∈ gw := gwm 555 (by decide +kernel) rfl
theorem ml_X2_86 : Cond.methodLink RX2 86 yX2_apart ∈ gw := gwm 549 (by decide +kernel) rfl
theorem cal_X2_apart : Cal yX2_apart cX2_apart 3 (some .int) 2 := ⟨gwm 552 (by decide +kernel) rfl, gwm 74 (by decide +kernel) rfl, ⟨by decide, by decide, by decide +kernel⟩, by decide⟩
theorem im_X2_apart : Cond.instanceMethod yX2_apart ∈ gw := gwm 551 (by decide +kernel) rfl
theorem se_X2_apart : Cond.selects RX2 yX2_apart yX2_apart ∈ gw := gwm 6 (by decide +kernel) rfl
theorem mm_X2_81 : Cond.methodLink RX2 81 Lib.Math.max.name ∈ gw := gwm 556 (by decide +kernel) rfl
theorem ct_X2_89 : Cond.constant RX2 89 (1000000) ∈ gw := gwm 561 (by decide +kernel) rfl
theorem mn_X2_33 : Cond.methodLinkNest RX2 33 yX11_lowestBit "RoughStones" ∈ nw := nwm 533 (by decide +kernel) rfl
theorem cal_X11_lowestBit : Cal yX11_lowestBit cX11_lowestBit 2 (some .int) 1 := ⟨gwm 535 (by decide +kernel) rfl, gwm 64 (by decide +kernel) rfl, ⟨by decide, by decide, by decide +kernel⟩, by decide⟩
theorem sm_X11_lowestBit : Cond.static yX11_lowestBit ∈ gw := gwm 534 (by decide +kernel) rfl
theorem mn_X2_69 : Cond.methodLinkNest RX2 69 yX11_holds "RoughStones" ∈ nw := nwm 542 (by decide +kernel) rfl
theorem cal_X11_holds : Cal yX11_holds cX11_holds 3 (some .boolean) 2 := ⟨gwm 544 (by decide +kernel) rfl, gwm 64 (by decide +kernel) rfl, ⟨by decide, by decide, by decide +kernel⟩, by decide⟩
theorem sm_X11_holds : Cond.static yX11_holds ∈ gw := gwm 543 (by decide +kernel) rfl
theorem ml_X2_73 : Cond.methodLink RX2 73 yX2_isPair ∈ gw := gwm 545 (by decide +kernel) rfl
theorem cal_X2_isPair : Cal yX2_isPair cX2_isPair 3 (some .boolean) 2 := ⟨gwm 548 (by decide +kernel) rfl, gwm 74 (by decide +kernel) rfl, ⟨by decide, by decide, by decide +kernel⟩, by decide⟩
theorem im_X2_isPair : Cond.instanceMethod yX2_isPair ∈ gw := gwm 547 (by decide +kernel) rfl
theorem se_X2_isPair : Cond.selects RX2 yX2_isPair yX2_isPair ∈ gw := gwm 5 (by decide +kernel) rfl
theorem ml_X2_77 : Cond.methodLink RX2 77 yX2_withPair ∈ gw := gwm 557 (by decide +kernel) rfl
theorem cal_X2_withPair : Cal yX2_withPair cX2_withPair 4 (some .int) 3 := ⟨gwm 560 (by decide +kernel) rfl, gwm 74 (by decide +kernel) rfl, ⟨by decide, by decide, by decide +kernel⟩, by decide⟩
theorem im_X2_withPair : Cond.instanceMethod yX2_withPair ∈ gw := gwm 559 (by decide +kernel) rfl
theorem se_X2_withPair : Cond.selects RX2 yX2_withPair yX2_withPair ∈ gw := gwm 7 (by decide +kernel) rfl
theorem ml_X2_45 : Cond.methodLink RX2 45 yJx4a65c_size_8abf5 ∈ gw := gwm 513 (by decide +kernel) rfl
theorem cal_Jx4a65c_size_8abf5 : Cal yJx4a65c_size_8abf5 cJx4a65c_size_8abf5 1 (some .int) 0 := ⟨gwm 384 (by decide +kernel) rfl, gwm 67 (by decide +kernel) rfl, ⟨by decide, by decide, by decide +kernel⟩, by decide⟩
theorem im_Jx4a65c_size_8abf5 : Cond.instanceMethod yJx4a65c_size_8abf5 ∈ gw := gwm 382 (by decide +kernel) rfl
theorem se_Jx4a65c_size_8abf5 : Cond.selects RJx4a65c yJx4a65c_size_8abf5 yJx4a65c_size_8abf5 ∈ gw := gwm 383 (by decide +kernel) rfl
theorem ml_X2_51 : Cond.methodLink RX2 51 yJx4a65c_get_915e3 ∈ gw := gwm 514 (by decide +kernel) rfl
theorem cal_Jx4a65c_get_915e3 : Cal yJx4a65c_get_915e3 cJx4a65c_get_915e3 2 (some (.object "java/lang/Object")) 1 := ⟨gwm 517 (by decide +kernel) rfl, gwm 67 (by decide +kernel) rfl, ⟨by decide, by decide, by decide +kernel⟩, by decide⟩
theorem im_Jx4a65c_get_915e3 : Cond.instanceMethod yJx4a65c_get_915e3 ∈ gw := gwm 515 (by decide +kernel) rfl
theorem se_Jx4a65c_get_915e3 : Cond.selects RJx4a65c yJx4a65c_get_915e3 yJx4a65c_get_915e3 ∈ gw := gwm 516 (by decide +kernel) rfl
theorem cn_X2_55 : Cond.classLink RX2 55 RX8 ∈ gw := gwm 528 (by decide +kernel) rfl
theorem fd_X2_57 : FD RX2 57 9 3 false := ⟨_, _, _, cls_9, by decide, gwm 976 (by decide +kernel) rfl, rfl, fun _ => by first | rfl | contradiction⟩
theorem fd_X2_61 : FD RX2 61 9 4 false := ⟨_, _, _, cls_9, by decide, gwm 979 (by decide +kernel) rfl, rfl, fun _ => by first | rfl | contradiction⟩
theorem fd_X2_64 : FD RX2 64 9 6 false := ⟨_, _, _, cls_9, by decide, gwm 984 (by decide +kernel) rfl, rfl, fun _ => by first | rfl | contradiction⟩
theorem fd_X2_67 : FD RX2 67 9 2 false := ⟨_, _, _, cls_9, by decide, gwm 973 (by decide +kernel) rfl, rfl, fun _ => by first | rfl | contradiction⟩
theorem ml_X2_25 : Cond.methodLink RX2 25 yX2_collect ∈ gw := gwm 509 (by decide +kernel) rfl
theorem cal_X2_collect : Cal yX2_collect cX2_collect 4 none 1 := ⟨gwm 512 (by decide +kernel) rfl, gwm 74 (by decide +kernel) rfl, ⟨by decide, by decide, by decide +kernel⟩, by decide⟩
theorem im_X2_collect : Cond.instanceMethod yX2_collect ∈ gw := gwm 511 (by decide +kernel) rfl
theorem se_X2_collect : Cond.selects RX2 yX2_collect yX2_collect ∈ gw := gwm 3 (by decide +kernel) rfl
theorem ml_X2_37 : Cond.methodLink RX2 37 yX2_mateIn ∈ gw := gwm 562 (by decide +kernel) rfl
theorem cal_X2_mateIn : Cal yX2_mateIn cX2_mateIn 4 (some .int) 2 := ⟨gwm 565 (by decide +kernel) rfl, gwm 74 (by decide +kernel) rfl, ⟨by decide, by decide, by decide +kernel⟩, by decide⟩
theorem im_X2_mateIn : Cond.instanceMethod yX2_mateIn ∈ gw := gwm 564 (by decide +kernel) rfl
theorem se_X2_mateIn : Cond.selects RX2 yX2_mateIn yX2_mateIn ∈ gw := gwm 8 (by decide +kernel) rfl
theorem ml_X2_41 : Cond.methodLink RX2 41 yX2_join ∈ gw := gwm 566 (by decide +kernel) rfl
theorem cal_X2_join : Cal yX2_join cX2_join 3 none 3 := ⟨gwm 568 (by decide +kernel) rfl, gwm 74 (by decide +kernel) rfl, ⟨by decide, by decide, by decide +kernel⟩, by decide⟩
theorem sm_X2_join : Cond.static yX2_join ∈ gw := gwm 567 (by decide +kernel) rfl
theorem ml_X2_29 : Cond.methodLink RX2 29 yX2_bestOf ∈ gw := gwm 529 (by decide +kernel) rfl
theorem cal_X2_bestOf : Cal yX2_bestOf cX2_bestOf 5 (some .int) 1 := ⟨gwm 532 (by decide +kernel) rfl, gwm 74 (by decide +kernel) rfl, ⟨by decide, by decide, by decide +kernel⟩, by decide⟩
theorem im_X2_bestOf : Cond.instanceMethod yX2_bestOf ∈ gw := gwm 531 (by decide +kernel) rfl
theorem se_X2_bestOf : Cond.selects RX2 yX2_bestOf yX2_bestOf ∈ gw := gwm 4 (by decide +kernel) rfl
theorem ml_X3_78 : Cond.methodLink RX3 78 yX3_block ∈ gw := gwm 790 (by decide +kernel) rfl
theorem cal_X3_block : Cal yX3_block cX3_block 9 (some .long) 4 := ⟨gwm 792 (by decide +kernel) rfl, gwm 91 (by decide +kernel) rfl, ⟨by decide, by decide, by decide +kernel⟩, by decide⟩
theorem sm_X3_block : Cond.static yX3_block ∈ gw := gwm 791 (by decide +kernel) rfl
theorem gn_X3_64 : Cond.fieldLinkNest RX3 64 "RoughStones" "TURNED" "[I" "RoughStones" ∈ nw := nwm 779 (by decide +kernel) rfl
theorem ml_X3_67 : Cond.methodLink RX3 67 yX3_turned ∈ gw := gwm 781 (by decide +kernel) rfl
theorem cal_X3_turned : Cal yX3_turned cX3_turned 4 (some .int) 4 := ⟨gwm 783 (by decide +kernel) rfl, gwm 91 (by decide +kernel) rfl, ⟨by decide, by decide, by decide +kernel⟩, by decide⟩
theorem sm_X3_turned : Cond.static yX3_turned ∈ gw := gwm 782 (by decide +kernel) rfl
theorem fd_X3_53 : FD RX3 53 4 4 true := ⟨_, _, _, cls_4, by decide, gwm 801 (by decide +kernel) rfl, rfl, fun _ => by first | rfl | contradiction⟩
theorem fd_X3_20 : FD RX3 20 4 2 true := ⟨_, _, _, cls_4, by decide, gwm 797 (by decide +kernel) rfl, rfl, fun _ => by first | rfl | contradiction⟩
theorem ml_X3_71 : Cond.methodLink RX3 71 yX3_maskOf ∈ gw := gwm 784 (by decide +kernel) rfl
theorem cal_X3_maskOf : Cal yX3_maskOf cX3_maskOf 2 (some .int) 2 := ⟨gwm 786 (by decide +kernel) rfl, gwm 91 (by decide +kernel) rfl, ⟨by decide, by decide, by decide +kernel⟩, by decide⟩
theorem sm_X3_maskOf : Cond.static yX3_maskOf ∈ gw := gwm 785 (by decide +kernel) rfl
theorem ml_X3_74 : Cond.methodLink RX3 74 yX3_layBlock ∈ gw := gwm 787 (by decide +kernel) rfl
theorem cal_X3_layBlock : Cal yX3_layBlock cX3_layBlock 8 none 5 := ⟨gwm 789 (by decide +kernel) rfl, gwm 91 (by decide +kernel) rfl, ⟨by decide, by decide, by decide +kernel⟩, by decide⟩
theorem sm_X3_layBlock : Cond.static yX3_layBlock ∈ gw := gwm 788 (by decide +kernel) rfl
theorem fr_X3_29 : FDr RX3 29 10 5 := ⟨_, _, _, cls_10, by decide, gwm 143 (by decide +kernel) rfl⟩
theorem fd_X3_9 : FD RX3 9 4 0 true := ⟨_, _, _, cls_4, by decide, gwm 793 (by decide +kernel) rfl, rfl, fun _ => by first | rfl | contradiction⟩
theorem fr_X3_38 : FDr RX3 38 10 6 := ⟨_, _, _, cls_10, by decide, gwm 145 (by decide +kernel) rfl⟩
theorem fr_X3_47 : FDr RX3 47 10 8 := ⟨_, _, _, cls_10, by decide, gwm 149 (by decide +kernel) rfl⟩
theorem fr_X3_41 : FDr RX3 41 10 7 := ⟨_, _, _, cls_10, by decide, gwm 147 (by decide +kernel) rfl⟩
theorem ml_X3_60 : Cond.methodLink RX3 60 yX3_layCell ∈ gw := gwm 775 (by decide +kernel) rfl
theorem cal_X3_layCell : Cal yX3_layCell cX3_layCell 9 none 4 := ⟨gwm 778 (by decide +kernel) rfl, gwm 91 (by decide +kernel) rfl, ⟨by decide, by decide, by decide +kernel⟩, by decide⟩
theorem im_X3_layCell : Cond.instanceMethod yX3_layCell ∈ gw := gwm 777 (by decide +kernel) rfl
theorem se_X3_layCell : Cond.selects RX3 yX3_layCell yX3_layCell ∈ gw := gwm 19 (by decide +kernel) rfl
theorem ml_X3_3 : Cond.methodLink RX3 3 objectInit ∈ gw := gwm 766 (by decide +kernel) rfl
theorem fd_X3_15 : FD RX3 15 4 1 true := ⟨_, _, _, cls_4, by decide, gwm 795 (by decide +kernel) rfl, rfl, fun _ => by first | rfl | contradiction⟩
theorem cn_X3_18 : Cond.classLink RX3 18 "[[J" ∈ gw := gwm 767 (by decide +kernel) rfl
theorem ac_long : Cond.arrayClass .long ∈ gw := gwm 264 (by decide +kernel) rfl
theorem fd_X3_23 : FD RX3 23 10 4 false := ⟨_, _, _, cls_10, by decide, gwm 141 (by decide +kernel) rfl, rfl, fun _ => by first | rfl | contradiction⟩
theorem fd_X3_50 : FD RX3 50 4 3 true := ⟨_, _, _, cls_4, by decide, gwm 799 (by decide +kernel) rfl, rfl, fun _ => by first | rfl | contradiction⟩
theorem mm_X3_44 : Cond.methodLink RX3 44 Lib.Math.max.name ∈ gw := gwm 770 (by decide +kernel) rfl
theorem ml_X3_56 : Cond.methodLink RX3 56 yX3_layLayer ∈ gw := gwm 771 (by decide +kernel) rfl
theorem cal_X3_layLayer : Cal yX3_layLayer cX3_layLayer 8 none 2 := ⟨gwm 774 (by decide +kernel) rfl, gwm 91 (by decide +kernel) rfl, ⟨by decide, by decide, by decide +kernel⟩, by decide⟩
theorem im_X3_layLayer : Cond.instanceMethod yX3_layLayer ∈ gw := gwm 773 (by decide +kernel) rfl
theorem se_X3_layLayer : Cond.selects RX3 yX3_layLayer yX3_layLayer ∈ gw := gwm 18 (by decide +kernel) rfl
theorem mm_X3_32 : Cond.methodLink RX3 32 Lib.Math.min.name ∈ gw := gwm 769 (by decide +kernel) rfl
theorem ml_X4_1 : Cond.methodLink RX4 1 objectInit ∈ gw := gwm 241 (by decide +kernel) rfl
theorem cn_X4_7 : Cond.classLink RX4 7 RX1 ∈ gw := gwm 242 (by decide +kernel) rfl
theorem in_X1 : Cond.instantiable RX1 8 ∈ gw := gwm 196 (by decide +kernel) rfl
theorem ii_X1 : Cond.initialized RX1 ∈ gw := gwm 71 (by decide +kernel) rfl
theorem mn_X4_9 : Cond.methodLinkNest RX4 9 yX1_init "RoughStones" ∈ nw := nwm 243 (by decide +kernel) rfl
theorem cal_X1_init : Cal yX1_init cX1_init 1 none 0 := ⟨gwm 199 (by decide +kernel) rfl, gwm 71 (by decide +kernel) rfl, ⟨by decide, by decide, by decide +kernel⟩, by decide⟩
theorem im_X1_init : Cond.instanceMethod yX1_init ∈ gw := gwm 198 (by decide +kernel) rfl
theorem fd_X4_10 : FD RX4 10 5 3 true := ⟨_, _, _, cls_5, by decide, gwm 252 (by decide +kernel) rfl, rfl, fun _ => by first | rfl | contradiction⟩
theorem fd_X4_16 : FD RX4 16 5 0 true := ⟨_, _, _, cls_5, by decide, gwm 244 (by decide +kernel) rfl, rfl, fun _ => by first | rfl | contradiction⟩
theorem fd_X4_20 : FD RX4 20 5 1 true := ⟨_, _, _, cls_5, by decide, gwm 247 (by decide +kernel) rfl, rfl, fun _ => by first | rfl | contradiction⟩
theorem fd_X4_23 : FD RX4 23 5 2 true := ⟨_, _, _, cls_5, by decide, gwm 249 (by decide +kernel) rfl, rfl, fun _ => by first | rfl | contradiction⟩
theorem ml_X5_3 : Cond.methodLink RX5 3 objectInit ∈ gw := gwm 175 (by decide +kernel) rfl
theorem fd_X5_9 : FD RX5 9 6 0 true := ⟨_, _, _, cls_6, by decide, gwm 176 (by decide +kernel) rfl, rfl, fun _ => by first | rfl | contradiction⟩
theorem fd_X5_15 : FD RX5 15 6 1 true := ⟨_, _, _, cls_6, by decide, gwm 177 (by decide +kernel) rfl, rfl, fun _ => by first | rfl | contradiction⟩
theorem fd_X5_18 : FD RX5 18 6 2 false := ⟨_, _, _, cls_6, by decide, gwm 178 (by decide +kernel) rfl, rfl, fun _ => by first | rfl | contradiction⟩
theorem dX0_init_0 : decode cX0_init 0 = .ok (.aload_n 0, 1) := by decide +kernel
theorem dX0_init_1 : decode cX0_init 1 = .ok (.invokespecial 3, 3) := by decide +kernel
theorem dX0_init_4 : decode cX0_init 4 = .ok (.aload_n 0, 1) := by decide +kernel
theorem dX0_init_5 : decode cX0_init 5 = .ok (.bipush 24, 2) := by decide +kernel
theorem dX0_init_7 : decode cX0_init 7 = .ok (.newarray .int, 2) := by decide +kernel
theorem dX0_init_9 : decode cX0_init 9 = .ok (.putfield 9, 3) := by decide +kernel
theorem dX0_init_12 : decode cX0_init 12 = .ok (.aload_n 0, 1) := by decide +kernel
theorem dX0_init_13 : decode cX0_init 13 = .ok (.iconst 4, 1) := by decide +kernel
theorem dX0_init_14 : decode cX0_init 14 = .ok (.newarray .int, 2) := by decide +kernel
theorem dX0_init_16 : decode cX0_init 16 = .ok (.dup, 1) := by decide +kernel
theorem dX0_init_17 : decode cX0_init 17 = .ok (.iconst 0, 1) := by decide +kernel
theorem dX0_init_18 : decode cX0_init 18 = .ok (.bipush 6, 2) := by decide +kernel
theorem dX0_init_20 : decode cX0_init 20 = .ok (.iastore, 1) := by decide +kernel
theorem dX0_init_21 : decode cX0_init 21 = .ok (.dup, 1) := by decide +kernel
theorem dX0_init_22 : decode cX0_init 22 = .ok (.iconst 1, 1) := by decide +kernel
theorem dX0_init_23 : decode cX0_init 23 = .ok (.bipush 6, 2) := by decide +kernel
theorem dX0_init_25 : decode cX0_init 25 = .ok (.iastore, 1) := by decide +kernel
theorem dX0_init_26 : decode cX0_init 26 = .ok (.dup, 1) := by decide +kernel
theorem dX0_init_27 : decode cX0_init 27 = .ok (.iconst 2, 1) := by decide +kernel
theorem dX0_init_28 : decode cX0_init 28 = .ok (.bipush 6, 2) := by decide +kernel
theorem dX0_init_30 : decode cX0_init 30 = .ok (.iastore, 1) := by decide +kernel
theorem dX0_init_31 : decode cX0_init 31 = .ok (.dup, 1) := by decide +kernel
theorem dX0_init_32 : decode cX0_init 32 = .ok (.iconst 3, 1) := by decide +kernel
theorem dX0_init_33 : decode cX0_init 33 = .ok (.bipush 6, 2) := by decide +kernel
theorem dX0_init_35 : decode cX0_init 35 = .ok (.iastore, 1) := by decide +kernel
theorem dX0_init_36 : decode cX0_init 36 = .ok (.putfield 15, 3) := by decide +kernel
theorem dX0_init_39 : decode cX0_init 39 = .ok (.aload_n 0, 1) := by decide +kernel
theorem dX0_init_40 : decode cX0_init 40 = .ok (.iconst 4, 1) := by decide +kernel
theorem dX0_init_41 : decode cX0_init 41 = .ok (.newarray .int, 2) := by decide +kernel
theorem dX0_init_43 : decode cX0_init 43 = .ok (.putfield 18, 3) := by decide +kernel
theorem dX0_init_46 : decode cX0_init 46 = .ok (.aload_n 0, 1) := by decide +kernel
theorem dX0_init_47 : decode cX0_init 47 = .ok (.bipush 6, 2) := by decide +kernel
theorem dX0_init_49 : decode cX0_init 49 = .ok (.newarray .int, 2) := by decide +kernel
theorem dX0_init_51 : decode cX0_init 51 = .ok (.putfield 21, 3) := by decide +kernel
theorem dX0_init_54 : decode cX0_init 54 = .ok (.aload_n 0, 1) := by decide +kernel
theorem dX0_init_55 : decode cX0_init 55 = .ok (.bipush 6, 2) := by decide +kernel
theorem dX0_init_57 : decode cX0_init 57 = .ok (.newarray .int, 2) := by decide +kernel
theorem dX0_init_59 : decode cX0_init 59 = .ok (.putfield 24, 3) := by decide +kernel
theorem dX0_init_62 : decode cX0_init 62 = .ok (.aload_n 0, 1) := by decide +kernel
theorem dX0_init_63 : decode cX0_init 63 = .ok (.bipush 7, 2) := by decide +kernel
theorem dX0_init_65 : decode cX0_init 65 = .ok (.newarray .int, 2) := by decide +kernel
theorem dX0_init_67 : decode cX0_init 67 = .ok (.putfield 27, 3) := by decide +kernel
theorem dX0_init_70 : decode cX0_init 70 = .ok (.aload_n 0, 1) := by decide +kernel
theorem dX0_init_71 : decode cX0_init 71 = .ok (.iconst 0, 1) := by decide +kernel
theorem dX0_init_72 : decode cX0_init 72 = .ok (.putfield 30, 3) := by decide +kernel
theorem dX0_init_75 : decode cX0_init 75 = .ok (.aload_n 0, 1) := by decide +kernel
theorem dX0_init_76 : decode cX0_init 76 = .ok (.iconst 0, 1) := by decide +kernel
theorem dX0_init_77 : decode cX0_init 77 = .ok (.putfield 34, 3) := by decide +kernel
theorem dX0_init_80 : decode cX0_init 80 = .ok (.return_, 1) := by decide +kernel
theorem dX0_seal_0 : decode cX0_seal 0 = .ok (.iload_n 2, 1) := by decide +kernel
theorem dX0_seal_1 : decode cX0_seal 1 = .ok (.iconst 4, 1) := by decide +kernel
theorem dX0_seal_2 : decode cX0_seal 2 = .ok (.imul, 1) := by decide +kernel
theorem dX0_seal_3 : decode cX0_seal 3 = .ok (.iload_n 1, 1) := by decide +kernel
theorem dX0_seal_4 : decode cX0_seal 4 = .ok (.iadd, 1) := by decide +kernel
theorem dX0_seal_5 : decode cX0_seal 5 = .ok (.istore 4, 2) := by decide +kernel
theorem dX0_seal_7 : decode cX0_seal 7 = .ok (.aload_n 0, 1) := by decide +kernel
theorem dX0_seal_8 : decode cX0_seal 8 = .ok (.getfield 9, 3) := by decide +kernel
theorem dX0_seal_11 : decode cX0_seal 11 = .ok (.iload 4, 2) := by decide +kernel
theorem dX0_seal_13 : decode cX0_seal 13 = .ok (.iaload, 1) := by decide +kernel
theorem dX0_seal_14 : decode cX0_seal 14 = .ok (.ifCond .eq 5, 3) := by decide +kernel
theorem dX0_seal_17 : decode cX0_seal 17 = .ok (.iconst 0, 1) := by decide +kernel
theorem dX0_seal_18 : decode cX0_seal 18 = .ok (.ireturn, 1) := by decide +kernel
theorem dX0_seal_19 : decode cX0_seal 19 = .ok (.aload_n 0, 1) := by decide +kernel
theorem dX0_seal_20 : decode cX0_seal 20 = .ok (.getfield 9, 3) := by decide +kernel
theorem dX0_seal_23 : decode cX0_seal 23 = .ok (.iload 4, 2) := by decide +kernel
theorem dX0_seal_25 : decode cX0_seal 25 = .ok (.iload_n 3, 1) := by decide +kernel
theorem dX0_seal_26 : decode cX0_seal 26 = .ok (.iastore, 1) := by decide +kernel
theorem dX0_seal_27 : decode cX0_seal 27 = .ok (.iconst 1, 1) := by decide +kernel
theorem dX0_seal_28 : decode cX0_seal 28 = .ok (.ireturn, 1) := by decide +kernel
theorem dX0_give_0 : decode cX0_give 0 = .ok (.iload_n 1, 1) := by decide +kernel
theorem dX0_give_1 : decode cX0_give 1 = .ok (.aload_n 0, 1) := by decide +kernel
theorem dX0_give_2 : decode cX0_give 2 = .ok (.getfield 30, 3) := by decide +kernel
theorem dX0_give_5 : decode cX0_give 5 = .ok (.if_icmp .gt 24, 3) := by decide +kernel
theorem dX0_give_8 : decode cX0_give 8 = .ok (.iload_n 1, 1) := by decide +kernel
theorem dX0_give_9 : decode cX0_give 9 = .ok (.bipush 6, 2) := by decide +kernel
theorem dX0_give_11 : decode cX0_give 11 = .ok (.if_icmp .gt 18, 3) := by decide +kernel
theorem dX0_give_14 : decode cX0_give 14 = .ok (.iload_n 2, 1) := by decide +kernel
theorem dX0_give_15 : decode cX0_give 15 = .ok (.aload_n 0, 1) := by decide +kernel
theorem dX0_give_16 : decode cX0_give 16 = .ok (.getfield 27, 3) := by decide +kernel
theorem dX0_give_19 : decode cX0_give 19 = .ok (.iload_n 1, 1) := by decide +kernel
theorem dX0_give_20 : decode cX0_give 20 = .ok (.iaload, 1) := by decide +kernel
theorem dX0_give_21 : decode cX0_give 21 = .ok (.iadd, 1) := by decide +kernel
theorem dX0_give_22 : decode cX0_give 22 = .ok (.aload_n 0, 1) := by decide +kernel
theorem dX0_give_23 : decode cX0_give 23 = .ok (.getfield 34, 3) := by decide +kernel
theorem dX0_give_26 : decode cX0_give 26 = .ok (.if_icmp .gt 4, 3) := by decide +kernel
theorem dX0_give_29 : decode cX0_give 29 = .ok (.return_, 1) := by decide +kernel
theorem dX0_give_30 : decode cX0_give 30 = .ok (.iload_n 1, 1) := by decide +kernel
theorem dX0_give_31 : decode cX0_give 31 = .ok (.aload_n 0, 1) := by decide +kernel
theorem dX0_give_32 : decode cX0_give 32 = .ok (.getfield 30, 3) := by decide +kernel
theorem dX0_give_35 : decode cX0_give 35 = .ok (.if_icmp .ne 26, 3) := by decide +kernel
theorem dX0_give_38 : decode cX0_give 38 = .ok (.aload_n 0, 1) := by decide +kernel
theorem dX0_give_39 : decode cX0_give 39 = .ok (.iload_n 2, 1) := by decide +kernel
theorem dX0_give_40 : decode cX0_give 40 = .ok (.putfield 34, 3) := by decide +kernel
theorem dX0_give_43 : decode cX0_give 43 = .ok (.aload_n 0, 1) := by decide +kernel
theorem dX0_give_44 : decode cX0_give 44 = .ok (.getfield 21, 3) := by decide +kernel
theorem dX0_give_47 : decode cX0_give 47 = .ok (.iconst 0, 1) := by decide +kernel
theorem dX0_give_48 : decode cX0_give 48 = .ok (.aload_n 0, 1) := by decide +kernel
theorem dX0_give_49 : decode cX0_give 49 = .ok (.getfield 24, 3) := by decide +kernel
theorem dX0_give_52 : decode cX0_give 52 = .ok (.iconst 0, 1) := by decide +kernel
theorem dX0_give_53 : decode cX0_give 53 = .ok (.aload_n 0, 1) := by decide +kernel
theorem dX0_give_54 : decode cX0_give 54 = .ok (.getfield 30, 3) := by decide +kernel
theorem dX0_give_57 : decode cX0_give 57 = .ok (.invokestatic 51, 3) := by decide +kernel
theorem dX0_give_60 : decode cX0_give 60 = .ok (.return_, 1) := by decide +kernel
theorem dX0_give_61 : decode cX0_give 61 = .ok (.iconst 0, 1) := by decide +kernel
theorem dX0_give_62 : decode cX0_give 62 = .ok (.istore_n 3, 1) := by decide +kernel
theorem dX0_give_63 : decode cX0_give 63 = .ok (.iload_n 3, 1) := by decide +kernel
theorem dX0_give_64 : decode cX0_give 64 = .ok (.iconst 4, 1) := by decide +kernel
theorem dX0_give_65 : decode cX0_give 65 = .ok (.if_icmp .ge 79, 3) := by decide +kernel
theorem dX0_give_68 : decode cX0_give 68 = .ok (.aload_n 0, 1) := by decide +kernel
theorem dX0_give_69 : decode cX0_give 69 = .ok (.getfield 9, 3) := by decide +kernel
theorem dX0_give_72 : decode cX0_give 72 = .ok (.iload_n 1, 1) := by decide +kernel
theorem dX0_give_73 : decode cX0_give 73 = .ok (.iconst 4, 1) := by decide +kernel
theorem dX0_give_74 : decode cX0_give 74 = .ok (.imul, 1) := by decide +kernel
theorem dX0_give_75 : decode cX0_give 75 = .ok (.iload_n 3, 1) := by decide +kernel
theorem dX0_give_76 : decode cX0_give 76 = .ok (.iadd, 1) := by decide +kernel
theorem dX0_give_77 : decode cX0_give 77 = .ok (.iaload, 1) := by decide +kernel
theorem dX0_give_78 : decode cX0_give 78 = .ok (.istore 4, 2) := by decide +kernel
theorem dX0_give_80 : decode cX0_give 80 = .ok (.iload 4, 2) := by decide +kernel
theorem dX0_give_82 : decode cX0_give 82 = .ok (.ifCond .le 56, 3) := by decide +kernel
theorem dX0_give_85 : decode cX0_give 85 = .ok (.aload_n 0, 1) := by decide +kernel
theorem dX0_give_86 : decode cX0_give 86 = .ok (.getfield 18, 3) := by decide +kernel
theorem dX0_give_89 : decode cX0_give 89 = .ok (.iload_n 3, 1) := by decide +kernel
theorem dX0_give_90 : decode cX0_give 90 = .ok (.iaload, 1) := by decide +kernel
theorem dX0_give_91 : decode cX0_give 91 = .ok (.aload_n 0, 1) := by decide +kernel
theorem dX0_give_92 : decode cX0_give 92 = .ok (.getfield 15, 3) := by decide +kernel
theorem dX0_give_95 : decode cX0_give 95 = .ok (.iload_n 3, 1) := by decide +kernel
theorem dX0_give_96 : decode cX0_give 96 = .ok (.iaload, 1) := by decide +kernel
theorem dX0_give_97 : decode cX0_give 97 = .ok (.if_icmp .ge 41, 3) := by decide +kernel
theorem dX0_give_100 : decode cX0_give 100 = .ok (.aload_n 0, 1) := by decide +kernel
theorem dX0_give_101 : decode cX0_give 101 = .ok (.getfield 18, 3) := by decide +kernel
theorem dX0_give_104 : decode cX0_give 104 = .ok (.iload_n 3, 1) := by decide +kernel
theorem dX0_give_105 : decode cX0_give 105 = .ok (.dup2, 1) := by decide +kernel
theorem dX0_give_106 : decode cX0_give 106 = .ok (.iaload, 1) := by decide +kernel
theorem dX0_give_107 : decode cX0_give 107 = .ok (.iconst 1, 1) := by decide +kernel
theorem dX0_give_108 : decode cX0_give 108 = .ok (.iadd, 1) := by decide +kernel
theorem dX0_give_109 : decode cX0_give 109 = .ok (.iastore, 1) := by decide +kernel
theorem dX0_give_110 : decode cX0_give 110 = .ok (.aload_n 0, 1) := by decide +kernel
theorem dX0_give_111 : decode cX0_give 111 = .ok (.getfield 21, 3) := by decide +kernel
theorem dX0_give_114 : decode cX0_give 114 = .ok (.iload_n 1, 1) := by decide +kernel
theorem dX0_give_115 : decode cX0_give 115 = .ok (.iload_n 3, 1) := by decide +kernel
theorem dX0_give_116 : decode cX0_give 116 = .ok (.iastore, 1) := by decide +kernel
theorem dX0_give_117 : decode cX0_give 117 = .ok (.aload_n 0, 1) := by decide +kernel
theorem dX0_give_118 : decode cX0_give 118 = .ok (.iload_n 1, 1) := by decide +kernel
theorem dX0_give_119 : decode cX0_give 119 = .ok (.iconst 1, 1) := by decide +kernel
theorem dX0_give_120 : decode cX0_give 120 = .ok (.iadd, 1) := by decide +kernel
theorem dX0_give_121 : decode cX0_give 121 = .ok (.iload_n 2, 1) := by decide +kernel
theorem dX0_give_122 : decode cX0_give 122 = .ok (.iload 4, 2) := by decide +kernel
theorem dX0_give_124 : decode cX0_give 124 = .ok (.iadd, 1) := by decide +kernel
theorem dX0_give_125 : decode cX0_give 125 = .ok (.invokevirtual 41, 3) := by decide +kernel
theorem dX0_give_128 : decode cX0_give 128 = .ok (.aload_n 0, 1) := by decide +kernel
theorem dX0_give_129 : decode cX0_give 129 = .ok (.getfield 18, 3) := by decide +kernel
theorem dX0_give_132 : decode cX0_give 132 = .ok (.iload_n 3, 1) := by decide +kernel
theorem dX0_give_133 : decode cX0_give 133 = .ok (.dup2, 1) := by decide +kernel
theorem dX0_give_134 : decode cX0_give 134 = .ok (.iaload, 1) := by decide +kernel
theorem dX0_give_135 : decode cX0_give 135 = .ok (.iconst 1, 1) := by decide +kernel
theorem dX0_give_136 : decode cX0_give 136 = .ok (.isub, 1) := by decide +kernel
theorem dX0_give_137 : decode cX0_give 137 = .ok (.iastore, 1) := by decide +kernel
theorem dX0_give_138 : decode cX0_give 138 = .ok (.iinc 3 1, 3) := by decide +kernel
theorem dX0_give_141 : decode cX0_give 141 = .ok (.goto (-78), 3) := by decide +kernel
theorem dX0_give_144 : decode cX0_give 144 = .ok (.aload_n 0, 1) := by decide +kernel
theorem dX0_give_145 : decode cX0_give 145 = .ok (.getfield 21, 3) := by decide +kernel
theorem dX0_give_148 : decode cX0_give 148 = .ok (.iload_n 1, 1) := by decide +kernel
theorem dX0_give_149 : decode cX0_give 149 = .ok (.iconst (-1), 1) := by decide +kernel
theorem dX0_give_150 : decode cX0_give 150 = .ok (.iastore, 1) := by decide +kernel
theorem dX0_give_151 : decode cX0_give 151 = .ok (.aload_n 0, 1) := by decide +kernel
theorem dX0_give_152 : decode cX0_give 152 = .ok (.iload_n 1, 1) := by decide +kernel
theorem dX0_give_153 : decode cX0_give 153 = .ok (.iconst 1, 1) := by decide +kernel
theorem dX0_give_154 : decode cX0_give 154 = .ok (.iadd, 1) := by decide +kernel
theorem dX0_give_155 : decode cX0_give 155 = .ok (.iload_n 2, 1) := by decide +kernel
theorem dX0_give_156 : decode cX0_give 156 = .ok (.invokevirtual 41, 3) := by decide +kernel
theorem dX0_give_159 : decode cX0_give 159 = .ok (.return_, 1) := by decide +kernel
theorem dX0_greatestBid_0 : decode cX0_greatestBid 0 = .ok (.iconst 0, 1) := by decide +kernel
theorem dX0_greatestBid_1 : decode cX0_greatestBid 1 = .ok (.istore_n 2, 1) := by decide +kernel
theorem dX0_greatestBid_2 : decode cX0_greatestBid 2 = .ok (.iconst 0, 1) := by decide +kernel
theorem dX0_greatestBid_3 : decode cX0_greatestBid 3 = .ok (.istore_n 3, 1) := by decide +kernel
theorem dX0_greatestBid_4 : decode cX0_greatestBid 4 = .ok (.iload_n 3, 1) := by decide +kernel
theorem dX0_greatestBid_5 : decode cX0_greatestBid 5 = .ok (.iconst 4, 1) := by decide +kernel
theorem dX0_greatestBid_6 : decode cX0_greatestBid 6 = .ok (.if_icmp .ge 24, 3) := by decide +kernel
theorem dX0_greatestBid_9 : decode cX0_greatestBid 9 = .ok (.iload_n 2, 1) := by decide +kernel
theorem dX0_greatestBid_10 : decode cX0_greatestBid 10 = .ok (.aload_n 0, 1) := by decide +kernel
theorem dX0_greatestBid_11 : decode cX0_greatestBid 11 = .ok (.getfield 9, 3) := by decide +kernel
theorem dX0_greatestBid_14 : decode cX0_greatestBid 14 = .ok (.iload_n 1, 1) := by decide +kernel
theorem dX0_greatestBid_15 : decode cX0_greatestBid 15 = .ok (.iconst 4, 1) := by decide +kernel
theorem dX0_greatestBid_16 : decode cX0_greatestBid 16 = .ok (.imul, 1) := by decide +kernel
theorem dX0_greatestBid_17 : decode cX0_greatestBid 17 = .ok (.iload_n 3, 1) := by decide +kernel
theorem dX0_greatestBid_18 : decode cX0_greatestBid 18 = .ok (.iadd, 1) := by decide +kernel
theorem dX0_greatestBid_19 : decode cX0_greatestBid 19 = .ok (.iaload, 1) := by decide +kernel
theorem dX0_greatestBid_20 : decode cX0_greatestBid 20 = .ok (.invokestatic 45, 3) := by decide +kernel
theorem dX0_greatestBid_23 : decode cX0_greatestBid 23 = .ok (.istore_n 2, 1) := by decide +kernel
theorem dX0_greatestBid_24 : decode cX0_greatestBid 24 = .ok (.iinc 3 1, 3) := by decide +kernel
theorem dX0_greatestBid_27 : decode cX0_greatestBid 27 = .ok (.goto (-23), 3) := by decide +kernel
theorem dX0_greatestBid_30 : decode cX0_greatestBid 30 = .ok (.iload_n 2, 1) := by decide +kernel
theorem dX0_greatestBid_31 : decode cX0_greatestBid 31 = .ok (.ireturn, 1) := by decide +kernel
theorem dX0_giveAll_0 : decode cX0_giveAll 0 = .ok (.aload_n 0, 1) := by decide +kernel
theorem dX0_giveAll_1 : decode cX0_giveAll 1 = .ok (.iconst (-1), 1) := by decide +kernel
theorem dX0_giveAll_2 : decode cX0_giveAll 2 = .ok (.putfield 34, 3) := by decide +kernel
theorem dX0_giveAll_5 : decode cX0_giveAll 5 = .ok (.aload_n 0, 1) := by decide +kernel
theorem dX0_giveAll_6 : decode cX0_giveAll 6 = .ok (.getfield 27, 3) := by decide +kernel
theorem dX0_giveAll_9 : decode cX0_giveAll 9 = .ok (.aload_n 0, 1) := by decide +kernel
theorem dX0_giveAll_10 : decode cX0_giveAll 10 = .ok (.getfield 30, 3) := by decide +kernel
theorem dX0_giveAll_13 : decode cX0_giveAll 13 = .ok (.iconst 0, 1) := by decide +kernel
theorem dX0_giveAll_14 : decode cX0_giveAll 14 = .ok (.iastore, 1) := by decide +kernel
theorem dX0_giveAll_15 : decode cX0_giveAll 15 = .ok (.aload_n 0, 1) := by decide +kernel
theorem dX0_giveAll_16 : decode cX0_giveAll 16 = .ok (.getfield 30, 3) := by decide +kernel
theorem dX0_giveAll_19 : decode cX0_giveAll 19 = .ok (.iconst 1, 1) := by decide +kernel
theorem dX0_giveAll_20 : decode cX0_giveAll 20 = .ok (.isub, 1) := by decide +kernel
theorem dX0_giveAll_21 : decode cX0_giveAll 21 = .ok (.istore_n 1, 1) := by decide +kernel
theorem dX0_giveAll_22 : decode cX0_giveAll 22 = .ok (.iload_n 1, 1) := by decide +kernel
theorem dX0_giveAll_23 : decode cX0_giveAll 23 = .ok (.ifCond .lt 29, 3) := by decide +kernel
theorem dX0_giveAll_26 : decode cX0_giveAll 26 = .ok (.aload_n 0, 1) := by decide +kernel
theorem dX0_giveAll_27 : decode cX0_giveAll 27 = .ok (.getfield 27, 3) := by decide +kernel
theorem dX0_giveAll_30 : decode cX0_giveAll 30 = .ok (.iload_n 1, 1) := by decide +kernel
theorem dX0_giveAll_31 : decode cX0_giveAll 31 = .ok (.aload_n 0, 1) := by decide +kernel
theorem dX0_giveAll_32 : decode cX0_giveAll 32 = .ok (.getfield 27, 3) := by decide +kernel
theorem dX0_giveAll_35 : decode cX0_giveAll 35 = .ok (.iload_n 1, 1) := by decide +kernel
theorem dX0_giveAll_36 : decode cX0_giveAll 36 = .ok (.iconst 1, 1) := by decide +kernel
theorem dX0_giveAll_37 : decode cX0_giveAll 37 = .ok (.iadd, 1) := by decide +kernel
theorem dX0_giveAll_38 : decode cX0_giveAll 38 = .ok (.iaload, 1) := by decide +kernel
theorem dX0_giveAll_39 : decode cX0_giveAll 39 = .ok (.aload_n 0, 1) := by decide +kernel
theorem dX0_giveAll_40 : decode cX0_giveAll 40 = .ok (.iload_n 1, 1) := by decide +kernel
theorem dX0_giveAll_41 : decode cX0_giveAll 41 = .ok (.invokevirtual 37, 3) := by decide +kernel
theorem dX0_giveAll_44 : decode cX0_giveAll 44 = .ok (.iadd, 1) := by decide +kernel
theorem dX0_giveAll_45 : decode cX0_giveAll 45 = .ok (.iastore, 1) := by decide +kernel
theorem dX0_giveAll_46 : decode cX0_giveAll 46 = .ok (.iinc 1 (-1), 3) := by decide +kernel
theorem dX0_giveAll_49 : decode cX0_giveAll 49 = .ok (.goto (-27), 3) := by decide +kernel
theorem dX0_giveAll_52 : decode cX0_giveAll 52 = .ok (.aload_n 0, 1) := by decide +kernel
theorem dX0_giveAll_53 : decode cX0_giveAll 53 = .ok (.iconst 0, 1) := by decide +kernel
theorem dX0_giveAll_54 : decode cX0_giveAll 54 = .ok (.iconst 0, 1) := by decide +kernel
theorem dX0_giveAll_55 : decode cX0_giveAll 55 = .ok (.invokevirtual 41, 3) := by decide +kernel
theorem dX0_giveAll_58 : decode cX0_giveAll 58 = .ok (.aload_n 0, 1) := by decide +kernel
theorem dX0_giveAll_59 : decode cX0_giveAll 59 = .ok (.getfield 34, 3) := by decide +kernel
theorem dX0_giveAll_62 : decode cX0_giveAll 62 = .ok (.ireturn, 1) := by decide +kernel
theorem dX0_winnerOf_0 : decode cX0_winnerOf 0 = .ok (.iload_n 1, 1) := by decide +kernel
theorem dX0_winnerOf_1 : decode cX0_winnerOf 1 = .ok (.ifCond .lt 20, 3) := by decide +kernel
theorem dX0_winnerOf_4 : decode cX0_winnerOf 4 = .ok (.iload_n 1, 1) := by decide +kernel
theorem dX0_winnerOf_5 : decode cX0_winnerOf 5 = .ok (.aload_n 0, 1) := by decide +kernel
theorem dX0_winnerOf_6 : decode cX0_winnerOf 6 = .ok (.getfield 30, 3) := by decide +kernel
theorem dX0_winnerOf_9 : decode cX0_winnerOf 9 = .ok (.if_icmp .ge 12, 3) := by decide +kernel
theorem dX0_winnerOf_12 : decode cX0_winnerOf 12 = .ok (.aload_n 0, 1) := by decide +kernel
theorem dX0_winnerOf_13 : decode cX0_winnerOf 13 = .ok (.getfield 24, 3) := by decide +kernel
theorem dX0_winnerOf_16 : decode cX0_winnerOf 16 = .ok (.iload_n 1, 1) := by decide +kernel
theorem dX0_winnerOf_17 : decode cX0_winnerOf 17 = .ok (.iaload, 1) := by decide +kernel
theorem dX0_winnerOf_18 : decode cX0_winnerOf 18 = .ok (.goto 4, 3) := by decide +kernel
theorem dX0_winnerOf_21 : decode cX0_winnerOf 21 = .ok (.iconst (-1), 1) := by decide +kernel
theorem dX0_winnerOf_22 : decode cX0_winnerOf 22 = .ok (.ireturn, 1) := by decide +kernel
theorem dX0_clear_0 : decode cX0_clear 0 = .ok (.aload_n 0, 1) := by decide +kernel
theorem dX0_clear_1 : decode cX0_clear 1 = .ok (.iconst 0, 1) := by decide +kernel
theorem dX0_clear_2 : decode cX0_clear 2 = .ok (.putfield 30, 3) := by decide +kernel
theorem dX0_clear_5 : decode cX0_clear 5 = .ok (.iconst 0, 1) := by decide +kernel
theorem dX0_clear_6 : decode cX0_clear 6 = .ok (.istore_n 1, 1) := by decide +kernel
theorem dX0_clear_7 : decode cX0_clear 7 = .ok (.iload_n 1, 1) := by decide +kernel
theorem dX0_clear_8 : decode cX0_clear 8 = .ok (.bipush 24, 2) := by decide +kernel
theorem dX0_clear_10 : decode cX0_clear 10 = .ok (.if_icmp .ge 16, 3) := by decide +kernel
theorem dX0_clear_13 : decode cX0_clear 13 = .ok (.aload_n 0, 1) := by decide +kernel
theorem dX0_clear_14 : decode cX0_clear 14 = .ok (.getfield 9, 3) := by decide +kernel
theorem dX0_clear_17 : decode cX0_clear 17 = .ok (.iload_n 1, 1) := by decide +kernel
theorem dX0_clear_18 : decode cX0_clear 18 = .ok (.iconst 0, 1) := by decide +kernel
theorem dX0_clear_19 : decode cX0_clear 19 = .ok (.iastore, 1) := by decide +kernel
theorem dX0_clear_20 : decode cX0_clear 20 = .ok (.iinc 1 1, 3) := by decide +kernel
theorem dX0_clear_23 : decode cX0_clear 23 = .ok (.goto (-16), 3) := by decide +kernel
theorem dX0_clear_26 : decode cX0_clear 26 = .ok (.return_, 1) := by decide +kernel
theorem dX1_init_0 : decode cX1_init 0 = .ok (.aload_n 0, 1) := by decide +kernel
theorem dX1_init_1 : decode cX1_init 1 = .ok (.invokespecial 3, 3) := by decide +kernel
theorem dX1_init_4 : decode cX1_init 4 = .ok (.aload_n 0, 1) := by decide +kernel
theorem dX1_init_5 : decode cX1_init 5 = .ok (.iconst 0, 1) := by decide +kernel
theorem dX1_init_6 : decode cX1_init 6 = .ok (.putfield 9, 3) := by decide +kernel
theorem dX1_init_9 : decode cX1_init 9 = .ok (.aload_n 0, 1) := by decide +kernel
theorem dX1_init_10 : decode cX1_init 10 = .ok (.iconst (-1), 1) := by decide +kernel
theorem dX1_init_11 : decode cX1_init 11 = .ok (.putfield 15, 3) := by decide +kernel
theorem dX1_init_14 : decode cX1_init 14 = .ok (.aload_n 0, 1) := by decide +kernel
theorem dX1_init_15 : decode cX1_init 15 = .ok (.iconst 0, 1) := by decide +kernel
theorem dX1_init_16 : decode cX1_init 16 = .ok (.putfield 18, 3) := by decide +kernel
theorem dX1_init_19 : decode cX1_init 19 = .ok (.aload_n 0, 1) := by decide +kernel
theorem dX1_init_20 : decode cX1_init 20 = .ok (.iconst 0, 1) := by decide +kernel
theorem dX1_init_21 : decode cX1_init 21 = .ok (.putfield 21, 3) := by decide +kernel
theorem dX1_init_24 : decode cX1_init 24 = .ok (.aload_n 0, 1) := by decide +kernel
theorem dX1_init_25 : decode cX1_init 25 = .ok (.iconst 0, 1) := by decide +kernel
theorem dX1_init_26 : decode cX1_init 26 = .ok (.putfield 24, 3) := by decide +kernel
theorem dX1_init_29 : decode cX1_init 29 = .ok (.aload_n 0, 1) := by decide +kernel
theorem dX1_init_30 : decode cX1_init 30 = .ok (.iconst 0, 1) := by decide +kernel
theorem dX1_init_31 : decode cX1_init 31 = .ok (.putfield 27, 3) := by decide +kernel
theorem dX1_init_34 : decode cX1_init 34 = .ok (.aload_n 0, 1) := by decide +kernel
theorem dX1_init_35 : decode cX1_init 35 = .ok (.iconst 0, 1) := by decide +kernel
theorem dX1_init_36 : decode cX1_init 36 = .ok (.putfield 30, 3) := by decide +kernel
theorem dX1_init_39 : decode cX1_init 39 = .ok (.aload_n 0, 1) := by decide +kernel
theorem dX1_init_40 : decode cX1_init 40 = .ok (.iconst 0, 1) := by decide +kernel
theorem dX1_init_41 : decode cX1_init 41 = .ok (.putfield 33, 3) := by decide +kernel
theorem dX1_init_44 : decode cX1_init 44 = .ok (.return_, 1) := by decide +kernel
theorem dX1_take_0 : decode cX1_take 0 = .ok (.aload_n 0, 1) := by decide +kernel
theorem dX1_take_1 : decode cX1_take 1 = .ok (.aload_n 1, 1) := by decide +kernel
theorem dX1_take_2 : decode cX1_take 2 = .ok (.getfield 9, 3) := by decide +kernel
theorem dX1_take_5 : decode cX1_take 5 = .ok (.putfield 9, 3) := by decide +kernel
theorem dX1_take_8 : decode cX1_take 8 = .ok (.aload_n 0, 1) := by decide +kernel
theorem dX1_take_9 : decode cX1_take 9 = .ok (.aload_n 1, 1) := by decide +kernel
theorem dX1_take_10 : decode cX1_take 10 = .ok (.getfield 15, 3) := by decide +kernel
theorem dX1_take_13 : decode cX1_take 13 = .ok (.putfield 15, 3) := by decide +kernel
theorem dX1_take_16 : decode cX1_take 16 = .ok (.aload_n 0, 1) := by decide +kernel
theorem dX1_take_17 : decode cX1_take 17 = .ok (.aload_n 1, 1) := by decide +kernel
theorem dX1_take_18 : decode cX1_take 18 = .ok (.getfield 18, 3) := by decide +kernel
theorem dX1_take_21 : decode cX1_take 21 = .ok (.putfield 18, 3) := by decide +kernel
theorem dX1_take_24 : decode cX1_take 24 = .ok (.aload_n 0, 1) := by decide +kernel
theorem dX1_take_25 : decode cX1_take 25 = .ok (.aload_n 1, 1) := by decide +kernel
theorem dX1_take_26 : decode cX1_take 26 = .ok (.getfield 21, 3) := by decide +kernel
theorem dX1_take_29 : decode cX1_take 29 = .ok (.putfield 21, 3) := by decide +kernel
theorem dX1_take_32 : decode cX1_take 32 = .ok (.aload_n 0, 1) := by decide +kernel
theorem dX1_take_33 : decode cX1_take 33 = .ok (.aload_n 1, 1) := by decide +kernel
theorem dX1_take_34 : decode cX1_take 34 = .ok (.getfield 24, 3) := by decide +kernel
theorem dX1_take_37 : decode cX1_take 37 = .ok (.putfield 24, 3) := by decide +kernel
theorem dX1_take_40 : decode cX1_take 40 = .ok (.aload_n 0, 1) := by decide +kernel
theorem dX1_take_41 : decode cX1_take 41 = .ok (.aload_n 1, 1) := by decide +kernel
theorem dX1_take_42 : decode cX1_take 42 = .ok (.getfield 27, 3) := by decide +kernel
theorem dX1_take_45 : decode cX1_take 45 = .ok (.putfield 27, 3) := by decide +kernel
theorem dX1_take_48 : decode cX1_take 48 = .ok (.aload_n 0, 1) := by decide +kernel
theorem dX1_take_49 : decode cX1_take 49 = .ok (.aload_n 1, 1) := by decide +kernel
theorem dX1_take_50 : decode cX1_take 50 = .ok (.getfield 30, 3) := by decide +kernel
theorem dX1_take_53 : decode cX1_take 53 = .ok (.putfield 30, 3) := by decide +kernel
theorem dX1_take_56 : decode cX1_take 56 = .ok (.aload_n 0, 1) := by decide +kernel
theorem dX1_take_57 : decode cX1_take 57 = .ok (.aload_n 1, 1) := by decide +kernel
theorem dX1_take_58 : decode cX1_take 58 = .ok (.getfield 33, 3) := by decide +kernel
theorem dX1_take_61 : decode cX1_take 61 = .ok (.putfield 33, 3) := by decide +kernel
theorem dX1_take_64 : decode cX1_take 64 = .ok (.return_, 1) := by decide +kernel
theorem dX1_tell_0 : decode cX1_tell 0 = .ok (.iload_n 1, 1) := by decide +kernel
theorem dX1_tell_1 : decode cX1_tell 1 = .ok (.tableswitch 69 0 5 #[39, 44, 49, 54, 59, 64], 39) := by decide +kernel
theorem dX1_tell_40 : decode cX1_tell 40 = .ok (.aload_n 0, 1) := by decide +kernel
theorem dX1_tell_41 : decode cX1_tell 41 = .ok (.getfield 15, 3) := by decide +kernel
theorem dX1_tell_44 : decode cX1_tell 44 = .ok (.ireturn, 1) := by decide +kernel
theorem dX1_tell_45 : decode cX1_tell 45 = .ok (.aload_n 0, 1) := by decide +kernel
theorem dX1_tell_46 : decode cX1_tell 46 = .ok (.getfield 18, 3) := by decide +kernel
theorem dX1_tell_49 : decode cX1_tell 49 = .ok (.ireturn, 1) := by decide +kernel
theorem dX1_tell_50 : decode cX1_tell 50 = .ok (.aload_n 0, 1) := by decide +kernel
theorem dX1_tell_51 : decode cX1_tell 51 = .ok (.getfield 21, 3) := by decide +kernel
theorem dX1_tell_54 : decode cX1_tell 54 = .ok (.ireturn, 1) := by decide +kernel
theorem dX1_tell_55 : decode cX1_tell 55 = .ok (.aload_n 0, 1) := by decide +kernel
theorem dX1_tell_56 : decode cX1_tell 56 = .ok (.getfield 24, 3) := by decide +kernel
theorem dX1_tell_59 : decode cX1_tell 59 = .ok (.ireturn, 1) := by decide +kernel
theorem dX1_tell_60 : decode cX1_tell 60 = .ok (.aload_n 0, 1) := by decide +kernel
theorem dX1_tell_61 : decode cX1_tell 61 = .ok (.getfield 27, 3) := by decide +kernel
theorem dX1_tell_64 : decode cX1_tell 64 = .ok (.ireturn, 1) := by decide +kernel
theorem dX1_tell_65 : decode cX1_tell 65 = .ok (.aload_n 0, 1) := by decide +kernel
theorem dX1_tell_66 : decode cX1_tell 66 = .ok (.getfield 30, 3) := by decide +kernel
theorem dX1_tell_69 : decode cX1_tell 69 = .ok (.ireturn, 1) := by decide +kernel
theorem dX1_tell_70 : decode cX1_tell 70 = .ok (.aload_n 0, 1) := by decide +kernel
theorem dX1_tell_71 : decode cX1_tell 71 = .ok (.getfield 33, 3) := by decide +kernel
theorem dX1_tell_74 : decode cX1_tell 74 = .ok (.ireturn, 1) := by decide +kernel
theorem dX2_init_0 : decode cX2_init 0 = .ok (.aload_n 0, 1) := by decide +kernel
theorem dX2_init_1 : decode cX2_init 1 = .ok (.invokespecial 3, 3) := by decide +kernel
theorem dX2_init_4 : decode cX2_init 4 = .ok (.aload_n 0, 1) := by decide +kernel
theorem dX2_init_5 : decode cX2_init 5 = .ok (.bipush 10, 2) := by decide +kernel
theorem dX2_init_7 : decode cX2_init 7 = .ok (.newarray .int, 2) := by decide +kernel
theorem dX2_init_9 : decode cX2_init 9 = .ok (.putfield 9, 3) := by decide +kernel
theorem dX2_init_12 : decode cX2_init 12 = .ok (.aload_n 0, 1) := by decide +kernel
theorem dX2_init_13 : decode cX2_init 13 = .ok (.bipush 10, 2) := by decide +kernel
theorem dX2_init_15 : decode cX2_init 15 = .ok (.newarray .int, 2) := by decide +kernel
theorem dX2_init_17 : decode cX2_init 17 = .ok (.putfield 15, 3) := by decide +kernel
theorem dX2_init_20 : decode cX2_init 20 = .ok (.aload_n 0, 1) := by decide +kernel
theorem dX2_init_21 : decode cX2_init 21 = .ok (.sipush 1024, 3) := by decide +kernel
theorem dX2_init_24 : decode cX2_init 24 = .ok (.newarray .int, 2) := by decide +kernel
theorem dX2_init_26 : decode cX2_init 26 = .ok (.putfield 18, 3) := by decide +kernel
theorem dX2_init_29 : decode cX2_init 29 = .ok (.aload_n 0, 1) := by decide +kernel
theorem dX2_init_30 : decode cX2_init 30 = .ok (.iconst 0, 1) := by decide +kernel
theorem dX2_init_31 : decode cX2_init 31 = .ok (.putfield 21, 3) := by decide +kernel
theorem dX2_init_34 : decode cX2_init 34 = .ok (.return_, 1) := by decide +kernel
theorem dX11_lowestBit_0 : decode cX11_lowestBit 0 = .ok (.lload_n 0, 1) := by decide +kernel
theorem dX11_lowestBit_1 : decode cX11_lowestBit 1 = .ok (.lload_n 0, 1) := by decide +kernel
theorem dX11_lowestBit_2 : decode cX11_lowestBit 2 = .ok (.lneg, 1) := by decide +kernel
theorem dX11_lowestBit_3 : decode cX11_lowestBit 3 = .ok (.land, 1) := by decide +kernel
theorem dX11_lowestBit_4 : decode cX11_lowestBit 4 = .ok (.lconst 1, 1) := by decide +kernel
theorem dX11_lowestBit_5 : decode cX11_lowestBit 5 = .ok (.lsub, 1) := by decide +kernel
theorem dX11_lowestBit_6 : decode cX11_lowestBit 6 = .ok (.invokestatic 109, 3) := by decide +kernel
theorem dX11_lowestBit_9 : decode cX11_lowestBit 9 = .ok (.ireturn, 1) := by decide +kernel
theorem dX11_holds_0 : decode cX11_holds 0 = .ok (.lload_n 0, 1) := by decide +kernel
theorem dX11_holds_1 : decode cX11_holds 1 = .ok (.iload_n 2, 1) := by decide +kernel
theorem dX11_holds_2 : decode cX11_holds 2 = .ok (.lushr, 1) := by decide +kernel
theorem dX11_holds_3 : decode cX11_holds 3 = .ok (.lconst 1, 1) := by decide +kernel
theorem dX11_holds_4 : decode cX11_holds 4 = .ok (.land, 1) := by decide +kernel
theorem dX11_holds_5 : decode cX11_holds 5 = .ok (.lconst 0, 1) := by decide +kernel
theorem dX11_holds_6 : decode cX11_holds 6 = .ok (.lcmp, 1) := by decide +kernel
theorem dX11_holds_7 : decode cX11_holds 7 = .ok (.ifCond .eq 7, 3) := by decide +kernel
theorem dX11_holds_10 : decode cX11_holds 10 = .ok (.iconst 1, 1) := by decide +kernel
theorem dX11_holds_11 : decode cX11_holds 11 = .ok (.goto 4, 3) := by decide +kernel
theorem dX11_holds_14 : decode cX11_holds 14 = .ok (.iconst 0, 1) := by decide +kernel
theorem dX11_holds_15 : decode cX11_holds 15 = .ok (.ireturn, 1) := by decide +kernel
theorem dX2_apart_0 : decode cX2_apart 0 = .ok (.aload_n 0, 1) := by decide +kernel
theorem dX2_apart_1 : decode cX2_apart 1 = .ok (.getfield 15, 3) := by decide +kernel
theorem dX2_apart_4 : decode cX2_apart 4 = .ok (.iload_n 1, 1) := by decide +kernel
theorem dX2_apart_5 : decode cX2_apart 5 = .ok (.iaload, 1) := by decide +kernel
theorem dX2_apart_6 : decode cX2_apart 6 = .ok (.aload_n 0, 1) := by decide +kernel
theorem dX2_apart_7 : decode cX2_apart 7 = .ok (.getfield 15, 3) := by decide +kernel
theorem dX2_apart_10 : decode cX2_apart 10 = .ok (.iload_n 2, 1) := by decide +kernel
theorem dX2_apart_11 : decode cX2_apart 11 = .ok (.iaload, 1) := by decide +kernel
theorem dX2_apart_12 : decode cX2_apart 12 = .ok (.isub, 1) := by decide +kernel
theorem dX2_apart_13 : decode cX2_apart 13 = .ok (.invokestatic 90, 3) := by decide +kernel
theorem dX2_apart_16 : decode cX2_apart 16 = .ok (.ireturn, 1) := by decide +kernel
theorem dX2_isPair_0 : decode cX2_isPair 0 = .ok (.sipush 1000, 3) := by decide +kernel
theorem dX2_isPair_3 : decode cX2_isPair 3 = .ok (.aload_n 0, 1) := by decide +kernel
theorem dX2_isPair_4 : decode cX2_isPair 4 = .ok (.iload_n 1, 1) := by decide +kernel
theorem dX2_isPair_5 : decode cX2_isPair 5 = .ok (.iload_n 2, 1) := by decide +kernel
theorem dX2_isPair_6 : decode cX2_isPair 6 = .ok (.invokevirtual 86, 3) := by decide +kernel
theorem dX2_isPair_9 : decode cX2_isPair 9 = .ok (.imul, 1) := by decide +kernel
theorem dX2_isPair_10 : decode cX2_isPair 10 = .ok (.bipush 100, 2) := by decide +kernel
theorem dX2_isPair_12 : decode cX2_isPair 12 = .ok (.aload_n 0, 1) := by decide +kernel
theorem dX2_isPair_13 : decode cX2_isPair 13 = .ok (.getfield 15, 3) := by decide +kernel
theorem dX2_isPair_16 : decode cX2_isPair 16 = .ok (.iload_n 1, 1) := by decide +kernel
theorem dX2_isPair_17 : decode cX2_isPair 17 = .ok (.iaload, 1) := by decide +kernel
theorem dX2_isPair_18 : decode cX2_isPair 18 = .ok (.aload_n 0, 1) := by decide +kernel
theorem dX2_isPair_19 : decode cX2_isPair 19 = .ok (.getfield 15, 3) := by decide +kernel
theorem dX2_isPair_22 : decode cX2_isPair 22 = .ok (.iload_n 2, 1) := by decide +kernel
theorem dX2_isPair_23 : decode cX2_isPair 23 = .ok (.iaload, 1) := by decide +kernel
theorem dX2_isPair_24 : decode cX2_isPair 24 = .ok (.invokestatic 81, 3) := by decide +kernel
theorem dX2_isPair_27 : decode cX2_isPair 27 = .ok (.imul, 1) := by decide +kernel
theorem dX2_isPair_28 : decode cX2_isPair 28 = .ok (.if_icmp .gt 7, 3) := by decide +kernel
theorem dX2_isPair_31 : decode cX2_isPair 31 = .ok (.iconst 1, 1) := by decide +kernel
theorem dX2_isPair_32 : decode cX2_isPair 32 = .ok (.goto 4, 3) := by decide +kernel
theorem dX2_isPair_35 : decode cX2_isPair 35 = .ok (.iconst 0, 1) := by decide +kernel
theorem dX2_isPair_36 : decode cX2_isPair 36 = .ok (.ireturn, 1) := by decide +kernel
theorem dX2_withPair_0 : decode cX2_withPair 0 = .ok (.aload_n 0, 1) := by decide +kernel
theorem dX2_withPair_1 : decode cX2_withPair 1 = .ok (.getfield 18, 3) := by decide +kernel
theorem dX2_withPair_4 : decode cX2_withPair 4 = .ok (.iload_n 1, 1) := by decide +kernel
theorem dX2_withPair_5 : decode cX2_withPair 5 = .ok (.iconst 1, 1) := by decide +kernel
theorem dX2_withPair_6 : decode cX2_withPair 6 = .ok (.iload_n 2, 1) := by decide +kernel
theorem dX2_withPair_7 : decode cX2_withPair 7 = .ok (.ishl, 1) := by decide +kernel
theorem dX2_withPair_8 : decode cX2_withPair 8 = .ok (.iconst 1, 1) := by decide +kernel
theorem dX2_withPair_9 : decode cX2_withPair 9 = .ok (.iload_n 3, 1) := by decide +kernel
theorem dX2_withPair_10 : decode cX2_withPair 10 = .ok (.ishl, 1) := by decide +kernel
theorem dX2_withPair_11 : decode cX2_withPair 11 = .ok (.ior, 1) := by decide +kernel
theorem dX2_withPair_12 : decode cX2_withPair 12 = .ok (.iconst (-1), 1) := by decide +kernel
theorem dX2_withPair_13 : decode cX2_withPair 13 = .ok (.ixor, 1) := by decide +kernel
theorem dX2_withPair_14 : decode cX2_withPair 14 = .ok (.iand, 1) := by decide +kernel
theorem dX2_withPair_15 : decode cX2_withPair 15 = .ok (.iaload, 1) := by decide +kernel
theorem dX2_withPair_16 : decode cX2_withPair 16 = .ok (.ldc 89, 2) := by decide +kernel
theorem dX2_withPair_18 : decode cX2_withPair 18 = .ok (.iadd, 1) := by decide +kernel
theorem dX2_withPair_19 : decode cX2_withPair 19 = .ok (.aload_n 0, 1) := by decide +kernel
theorem dX2_withPair_20 : decode cX2_withPair 20 = .ok (.iload_n 2, 1) := by decide +kernel
theorem dX2_withPair_21 : decode cX2_withPair 21 = .ok (.iload_n 3, 1) := by decide +kernel
theorem dX2_withPair_22 : decode cX2_withPair 22 = .ok (.invokevirtual 86, 3) := by decide +kernel
theorem dX2_withPair_25 : decode cX2_withPair 25 = .ok (.isub, 1) := by decide +kernel
theorem dX2_withPair_26 : decode cX2_withPair 26 = .ok (.ireturn, 1) := by decide +kernel
theorem dX2_bestOf_0 : decode cX2_bestOf 0 = .ok (.iload_n 1, 1) := by decide +kernel
theorem dX2_bestOf_1 : decode cX2_bestOf 1 = .ok (.i2l, 1) := by decide +kernel
theorem dX2_bestOf_2 : decode cX2_bestOf 2 = .ok (.invokestatic 33, 3) := by decide +kernel
theorem dX2_bestOf_5 : decode cX2_bestOf 5 = .ok (.istore_n 2, 1) := by decide +kernel
theorem dX2_bestOf_6 : decode cX2_bestOf 6 = .ok (.aload_n 0, 1) := by decide +kernel
theorem dX2_bestOf_7 : decode cX2_bestOf 7 = .ok (.getfield 18, 3) := by decide +kernel
theorem dX2_bestOf_10 : decode cX2_bestOf 10 = .ok (.iload_n 1, 1) := by decide +kernel
theorem dX2_bestOf_11 : decode cX2_bestOf 11 = .ok (.iconst 1, 1) := by decide +kernel
theorem dX2_bestOf_12 : decode cX2_bestOf 12 = .ok (.iload_n 2, 1) := by decide +kernel
theorem dX2_bestOf_13 : decode cX2_bestOf 13 = .ok (.ishl, 1) := by decide +kernel
theorem dX2_bestOf_14 : decode cX2_bestOf 14 = .ok (.iconst (-1), 1) := by decide +kernel
theorem dX2_bestOf_15 : decode cX2_bestOf 15 = .ok (.ixor, 1) := by decide +kernel
theorem dX2_bestOf_16 : decode cX2_bestOf 16 = .ok (.iand, 1) := by decide +kernel
theorem dX2_bestOf_17 : decode cX2_bestOf 17 = .ok (.iaload, 1) := by decide +kernel
theorem dX2_bestOf_18 : decode cX2_bestOf 18 = .ok (.istore_n 3, 1) := by decide +kernel
theorem dX2_bestOf_19 : decode cX2_bestOf 19 = .ok (.iload_n 2, 1) := by decide +kernel
theorem dX2_bestOf_20 : decode cX2_bestOf 20 = .ok (.iconst 1, 1) := by decide +kernel
theorem dX2_bestOf_21 : decode cX2_bestOf 21 = .ok (.iadd, 1) := by decide +kernel
theorem dX2_bestOf_22 : decode cX2_bestOf 22 = .ok (.istore 4, 2) := by decide +kernel
theorem dX2_bestOf_24 : decode cX2_bestOf 24 = .ok (.iload 4, 2) := by decide +kernel
theorem dX2_bestOf_26 : decode cX2_bestOf 26 = .ok (.aload_n 0, 1) := by decide +kernel
theorem dX2_bestOf_27 : decode cX2_bestOf 27 = .ok (.getfield 21, 3) := by decide +kernel
theorem dX2_bestOf_30 : decode cX2_bestOf 30 = .ok (.if_icmp .ge 42, 3) := by decide +kernel
theorem dX2_bestOf_33 : decode cX2_bestOf 33 = .ok (.iload_n 1, 1) := by decide +kernel
theorem dX2_bestOf_34 : decode cX2_bestOf 34 = .ok (.i2l, 1) := by decide +kernel
theorem dX2_bestOf_35 : decode cX2_bestOf 35 = .ok (.iload 4, 2) := by decide +kernel
theorem dX2_bestOf_37 : decode cX2_bestOf 37 = .ok (.invokestatic 69, 3) := by decide +kernel
theorem dX2_bestOf_40 : decode cX2_bestOf 40 = .ok (.ifCond .eq 26, 3) := by decide +kernel
theorem dX2_bestOf_43 : decode cX2_bestOf 43 = .ok (.aload_n 0, 1) := by decide +kernel
theorem dX2_bestOf_44 : decode cX2_bestOf 44 = .ok (.iload_n 2, 1) := by decide +kernel
theorem dX2_bestOf_45 : decode cX2_bestOf 45 = .ok (.iload 4, 2) := by decide +kernel
theorem dX2_bestOf_47 : decode cX2_bestOf 47 = .ok (.invokevirtual 73, 3) := by decide +kernel
theorem dX2_bestOf_50 : decode cX2_bestOf 50 = .ok (.ifCond .eq 16, 3) := by decide +kernel
theorem dX2_bestOf_53 : decode cX2_bestOf 53 = .ok (.iload_n 3, 1) := by decide +kernel
theorem dX2_bestOf_54 : decode cX2_bestOf 54 = .ok (.aload_n 0, 1) := by decide +kernel
theorem dX2_bestOf_55 : decode cX2_bestOf 55 = .ok (.iload_n 1, 1) := by decide +kernel
theorem dX2_bestOf_56 : decode cX2_bestOf 56 = .ok (.iload_n 2, 1) := by decide +kernel
theorem dX2_bestOf_57 : decode cX2_bestOf 57 = .ok (.iload 4, 2) := by decide +kernel
theorem dX2_bestOf_59 : decode cX2_bestOf 59 = .ok (.invokevirtual 77, 3) := by decide +kernel
theorem dX2_bestOf_62 : decode cX2_bestOf 62 = .ok (.invokestatic 81, 3) := by decide +kernel
theorem dX2_bestOf_65 : decode cX2_bestOf 65 = .ok (.istore_n 3, 1) := by decide +kernel
theorem dX2_bestOf_66 : decode cX2_bestOf 66 = .ok (.iinc 4 1, 3) := by decide +kernel
theorem dX2_bestOf_69 : decode cX2_bestOf 69 = .ok (.goto (-45), 3) := by decide +kernel
theorem dX2_bestOf_72 : decode cX2_bestOf 72 = .ok (.iload_n 3, 1) := by decide +kernel
theorem dX2_bestOf_73 : decode cX2_bestOf 73 = .ok (.ireturn, 1) := by decide +kernel
theorem dX2_collect_0 : decode cX2_collect 0 = .ok (.aload_n 0, 1) := by decide +kernel
theorem dX2_collect_1 : decode cX2_collect 1 = .ok (.iconst 0, 1) := by decide +kernel
theorem dX2_collect_2 : decode cX2_collect 2 = .ok (.putfield 21, 3) := by decide +kernel
theorem dX2_collect_5 : decode cX2_collect 5 = .ok (.iconst 0, 1) := by decide +kernel
theorem dX2_collect_6 : decode cX2_collect 6 = .ok (.istore_n 2, 1) := by decide +kernel
theorem dX2_collect_7 : decode cX2_collect 7 = .ok (.iload_n 2, 1) := by decide +kernel
theorem dX2_collect_8 : decode cX2_collect 8 = .ok (.aload_n 1, 1) := by decide +kernel
theorem dX2_collect_9 : decode cX2_collect 9 = .ok (.invokevirtual 45, 3) := by decide +kernel
theorem dX2_collect_12 : decode cX2_collect 12 = .ok (.if_icmp .ge 83, 3) := by decide +kernel
theorem dX2_collect_15 : decode cX2_collect 15 = .ok (.aload_n 0, 1) := by decide +kernel
theorem dX2_collect_16 : decode cX2_collect 16 = .ok (.getfield 21, 3) := by decide +kernel
theorem dX2_collect_19 : decode cX2_collect 19 = .ok (.bipush 10, 2) := by decide +kernel
theorem dX2_collect_21 : decode cX2_collect 21 = .ok (.if_icmp .ge 74, 3) := by decide +kernel
theorem dX2_collect_24 : decode cX2_collect 24 = .ok (.aload_n 1, 1) := by decide +kernel
theorem dX2_collect_25 : decode cX2_collect 25 = .ok (.iload_n 2, 1) := by decide +kernel
theorem dX2_collect_26 : decode cX2_collect 26 = .ok (.invokevirtual 51, 3) := by decide +kernel
theorem dX2_collect_29 : decode cX2_collect 29 = .ok (.checkcast 55, 3) := by decide +kernel
theorem dX2_collect_32 : decode cX2_collect 32 = .ok (.astore_n 3, 1) := by decide +kernel
theorem dX2_collect_33 : decode cX2_collect 33 = .ok (.aload_n 3, 1) := by decide +kernel
theorem dX2_collect_34 : decode cX2_collect 34 = .ok (.getfield 57, 3) := by decide +kernel
theorem dX2_collect_37 : decode cX2_collect 37 = .ok (.ifCond .eq 52, 3) := by decide +kernel
theorem dX2_collect_40 : decode cX2_collect 40 = .ok (.aload_n 3, 1) := by decide +kernel
theorem dX2_collect_41 : decode cX2_collect 41 = .ok (.getfield 61, 3) := by decide +kernel
theorem dX2_collect_44 : decode cX2_collect 44 = .ok (.iconst (-1), 1) := by decide +kernel
theorem dX2_collect_45 : decode cX2_collect 45 = .ok (.if_icmp .ne 44, 3) := by decide +kernel
theorem dX2_collect_48 : decode cX2_collect 48 = .ok (.aload_n 3, 1) := by decide +kernel
theorem dX2_collect_49 : decode cX2_collect 49 = .ok (.getfield 64, 3) := by decide +kernel
theorem dX2_collect_52 : decode cX2_collect 52 = .ok (.iconst (-1), 1) := by decide +kernel
theorem dX2_collect_53 : decode cX2_collect 53 = .ok (.if_icmp .ne 36, 3) := by decide +kernel
theorem dX2_collect_56 : decode cX2_collect 56 = .ok (.aload_n 0, 1) := by decide +kernel
theorem dX2_collect_57 : decode cX2_collect 57 = .ok (.getfield 9, 3) := by decide +kernel
theorem dX2_collect_60 : decode cX2_collect 60 = .ok (.aload_n 0, 1) := by decide +kernel
theorem dX2_collect_61 : decode cX2_collect 61 = .ok (.getfield 21, 3) := by decide +kernel
theorem dX2_collect_64 : decode cX2_collect 64 = .ok (.iload_n 2, 1) := by decide +kernel
theorem dX2_collect_65 : decode cX2_collect 65 = .ok (.iastore, 1) := by decide +kernel
theorem dX2_collect_66 : decode cX2_collect 66 = .ok (.aload_n 0, 1) := by decide +kernel
theorem dX2_collect_67 : decode cX2_collect 67 = .ok (.getfield 15, 3) := by decide +kernel
theorem dX2_collect_70 : decode cX2_collect 70 = .ok (.aload_n 0, 1) := by decide +kernel
theorem dX2_collect_71 : decode cX2_collect 71 = .ok (.getfield 21, 3) := by decide +kernel
theorem dX2_collect_74 : decode cX2_collect 74 = .ok (.aload_n 3, 1) := by decide +kernel
theorem dX2_collect_75 : decode cX2_collect 75 = .ok (.getfield 67, 3) := by decide +kernel
theorem dX2_collect_78 : decode cX2_collect 78 = .ok (.iastore, 1) := by decide +kernel
theorem dX2_collect_79 : decode cX2_collect 79 = .ok (.aload_n 0, 1) := by decide +kernel
theorem dX2_collect_80 : decode cX2_collect 80 = .ok (.dup, 1) := by decide +kernel
theorem dX2_collect_81 : decode cX2_collect 81 = .ok (.getfield 21, 3) := by decide +kernel
theorem dX2_collect_84 : decode cX2_collect 84 = .ok (.iconst 1, 1) := by decide +kernel
theorem dX2_collect_85 : decode cX2_collect 85 = .ok (.iadd, 1) := by decide +kernel
theorem dX2_collect_86 : decode cX2_collect 86 = .ok (.putfield 21, 3) := by decide +kernel
theorem dX2_collect_89 : decode cX2_collect 89 = .ok (.iinc 2 1, 3) := by decide +kernel
theorem dX2_collect_92 : decode cX2_collect 92 = .ok (.goto (-85), 3) := by decide +kernel
theorem dX2_collect_95 : decode cX2_collect 95 = .ok (.return_, 1) := by decide +kernel
theorem dX2_join_0 : decode cX2_join 0 = .ok (.iload_n 1, 1) := by decide +kernel
theorem dX2_join_1 : decode cX2_join 1 = .ok (.aload_n 0, 1) := by decide +kernel
theorem dX2_join_2 : decode cX2_join 2 = .ok (.invokevirtual 45, 3) := by decide +kernel
theorem dX2_join_5 : decode cX2_join 5 = .ok (.if_icmp .ge 35, 3) := by decide +kernel
theorem dX2_join_8 : decode cX2_join 8 = .ok (.iload_n 2, 1) := by decide +kernel
theorem dX2_join_9 : decode cX2_join 9 = .ok (.aload_n 0, 1) := by decide +kernel
theorem dX2_join_10 : decode cX2_join 10 = .ok (.invokevirtual 45, 3) := by decide +kernel
theorem dX2_join_13 : decode cX2_join 13 = .ok (.if_icmp .ge 27, 3) := by decide +kernel
theorem dX2_join_16 : decode cX2_join 16 = .ok (.aload_n 0, 1) := by decide +kernel
theorem dX2_join_17 : decode cX2_join 17 = .ok (.iload_n 1, 1) := by decide +kernel
theorem dX2_join_18 : decode cX2_join 18 = .ok (.invokevirtual 51, 3) := by decide +kernel
theorem dX2_join_21 : decode cX2_join 21 = .ok (.checkcast 55, 3) := by decide +kernel
theorem dX2_join_24 : decode cX2_join 24 = .ok (.iload_n 2, 1) := by decide +kernel
theorem dX2_join_25 : decode cX2_join 25 = .ok (.putfield 61, 3) := by decide +kernel
theorem dX2_join_28 : decode cX2_join 28 = .ok (.aload_n 0, 1) := by decide +kernel
theorem dX2_join_29 : decode cX2_join 29 = .ok (.iload_n 2, 1) := by decide +kernel
theorem dX2_join_30 : decode cX2_join 30 = .ok (.invokevirtual 51, 3) := by decide +kernel
theorem dX2_join_33 : decode cX2_join 33 = .ok (.checkcast 55, 3) := by decide +kernel
theorem dX2_join_36 : decode cX2_join 36 = .ok (.iload_n 1, 1) := by decide +kernel
theorem dX2_join_37 : decode cX2_join 37 = .ok (.putfield 61, 3) := by decide +kernel
theorem dX2_join_40 : decode cX2_join 40 = .ok (.return_, 1) := by decide +kernel
theorem dX2_mateIn_0 : decode cX2_mateIn 0 = .ok (.iload_n 2, 1) := by decide +kernel
theorem dX2_mateIn_1 : decode cX2_mateIn 1 = .ok (.iconst 1, 1) := by decide +kernel
theorem dX2_mateIn_2 : decode cX2_mateIn 2 = .ok (.iadd, 1) := by decide +kernel
theorem dX2_mateIn_3 : decode cX2_mateIn 3 = .ok (.istore_n 3, 1) := by decide +kernel
theorem dX2_mateIn_4 : decode cX2_mateIn 4 = .ok (.iload_n 3, 1) := by decide +kernel
theorem dX2_mateIn_5 : decode cX2_mateIn 5 = .ok (.aload_n 0, 1) := by decide +kernel
theorem dX2_mateIn_6 : decode cX2_mateIn 6 = .ok (.getfield 21, 3) := by decide +kernel
theorem dX2_mateIn_9 : decode cX2_mateIn 9 = .ok (.if_icmp .ge 45, 3) := by decide +kernel
theorem dX2_mateIn_12 : decode cX2_mateIn 12 = .ok (.iload_n 1, 1) := by decide +kernel
theorem dX2_mateIn_13 : decode cX2_mateIn 13 = .ok (.i2l, 1) := by decide +kernel
theorem dX2_mateIn_14 : decode cX2_mateIn 14 = .ok (.iload_n 3, 1) := by decide +kernel
theorem dX2_mateIn_15 : decode cX2_mateIn 15 = .ok (.invokestatic 69, 3) := by decide +kernel
theorem dX2_mateIn_18 : decode cX2_mateIn 18 = .ok (.ifCond .eq 30, 3) := by decide +kernel
theorem dX2_mateIn_21 : decode cX2_mateIn 21 = .ok (.aload_n 0, 1) := by decide +kernel
theorem dX2_mateIn_22 : decode cX2_mateIn 22 = .ok (.iload_n 2, 1) := by decide +kernel
theorem dX2_mateIn_23 : decode cX2_mateIn 23 = .ok (.iload_n 3, 1) := by decide +kernel
theorem dX2_mateIn_24 : decode cX2_mateIn 24 = .ok (.invokevirtual 73, 3) := by decide +kernel
theorem dX2_mateIn_27 : decode cX2_mateIn 27 = .ok (.ifCond .eq 21, 3) := by decide +kernel
theorem dX2_mateIn_30 : decode cX2_mateIn 30 = .ok (.aload_n 0, 1) := by decide +kernel
theorem dX2_mateIn_31 : decode cX2_mateIn 31 = .ok (.iload_n 1, 1) := by decide +kernel
theorem dX2_mateIn_32 : decode cX2_mateIn 32 = .ok (.iload_n 2, 1) := by decide +kernel
theorem dX2_mateIn_33 : decode cX2_mateIn 33 = .ok (.iload_n 3, 1) := by decide +kernel
theorem dX2_mateIn_34 : decode cX2_mateIn 34 = .ok (.invokevirtual 77, 3) := by decide +kernel
theorem dX2_mateIn_37 : decode cX2_mateIn 37 = .ok (.aload_n 0, 1) := by decide +kernel
theorem dX2_mateIn_38 : decode cX2_mateIn 38 = .ok (.getfield 18, 3) := by decide +kernel
theorem dX2_mateIn_41 : decode cX2_mateIn 41 = .ok (.iload_n 1, 1) := by decide +kernel
theorem dX2_mateIn_42 : decode cX2_mateIn 42 = .ok (.iaload, 1) := by decide +kernel
theorem dX2_mateIn_43 : decode cX2_mateIn 43 = .ok (.if_icmp .ne 5, 3) := by decide +kernel
theorem dX2_mateIn_46 : decode cX2_mateIn 46 = .ok (.iload_n 3, 1) := by decide +kernel
theorem dX2_mateIn_47 : decode cX2_mateIn 47 = .ok (.ireturn, 1) := by decide +kernel
theorem dX2_mateIn_48 : decode cX2_mateIn 48 = .ok (.iinc 3 1, 3) := by decide +kernel
theorem dX2_mateIn_51 : decode cX2_mateIn 51 = .ok (.goto (-47), 3) := by decide +kernel
theorem dX2_mateIn_54 : decode cX2_mateIn 54 = .ok (.iconst (-1), 1) := by decide +kernel
theorem dX2_mateIn_55 : decode cX2_mateIn 55 = .ok (.ireturn, 1) := by decide +kernel
theorem dX2_pairUp_0 : decode cX2_pairUp 0 = .ok (.aload_n 0, 1) := by decide +kernel
theorem dX2_pairUp_1 : decode cX2_pairUp 1 = .ok (.aload_n 1, 1) := by decide +kernel
theorem dX2_pairUp_2 : decode cX2_pairUp 2 = .ok (.invokevirtual 25, 3) := by decide +kernel
theorem dX2_pairUp_5 : decode cX2_pairUp 5 = .ok (.iconst 1, 1) := by decide +kernel
theorem dX2_pairUp_6 : decode cX2_pairUp 6 = .ok (.aload_n 0, 1) := by decide +kernel
theorem dX2_pairUp_7 : decode cX2_pairUp 7 = .ok (.getfield 21, 3) := by decide +kernel
theorem dX2_pairUp_10 : decode cX2_pairUp 10 = .ok (.ishl, 1) := by decide +kernel
theorem dX2_pairUp_11 : decode cX2_pairUp 11 = .ok (.iconst 1, 1) := by decide +kernel
theorem dX2_pairUp_12 : decode cX2_pairUp 12 = .ok (.isub, 1) := by decide +kernel
theorem dX2_pairUp_13 : decode cX2_pairUp 13 = .ok (.istore_n 2, 1) := by decide +kernel
theorem dX2_pairUp_14 : decode cX2_pairUp 14 = .ok (.aload_n 0, 1) := by decide +kernel
theorem dX2_pairUp_15 : decode cX2_pairUp 15 = .ok (.getfield 18, 3) := by decide +kernel
theorem dX2_pairUp_18 : decode cX2_pairUp 18 = .ok (.iconst 0, 1) := by decide +kernel
theorem dX2_pairUp_19 : decode cX2_pairUp 19 = .ok (.iconst 0, 1) := by decide +kernel
theorem dX2_pairUp_20 : decode cX2_pairUp 20 = .ok (.iastore, 1) := by decide +kernel
theorem dX2_pairUp_21 : decode cX2_pairUp 21 = .ok (.iconst 1, 1) := by decide +kernel
theorem dX2_pairUp_22 : decode cX2_pairUp 22 = .ok (.istore_n 3, 1) := by decide +kernel
theorem dX2_pairUp_23 : decode cX2_pairUp 23 = .ok (.iload_n 3, 1) := by decide +kernel
theorem dX2_pairUp_24 : decode cX2_pairUp 24 = .ok (.iload_n 2, 1) := by decide +kernel
theorem dX2_pairUp_25 : decode cX2_pairUp 25 = .ok (.if_icmp .gt 20, 3) := by decide +kernel
theorem dX2_pairUp_28 : decode cX2_pairUp 28 = .ok (.aload_n 0, 1) := by decide +kernel
theorem dX2_pairUp_29 : decode cX2_pairUp 29 = .ok (.getfield 18, 3) := by decide +kernel
theorem dX2_pairUp_32 : decode cX2_pairUp 32 = .ok (.iload_n 3, 1) := by decide +kernel
theorem dX2_pairUp_33 : decode cX2_pairUp 33 = .ok (.aload_n 0, 1) := by decide +kernel
theorem dX2_pairUp_34 : decode cX2_pairUp 34 = .ok (.iload_n 3, 1) := by decide +kernel
theorem dX2_pairUp_35 : decode cX2_pairUp 35 = .ok (.invokevirtual 29, 3) := by decide +kernel
theorem dX2_pairUp_38 : decode cX2_pairUp 38 = .ok (.iastore, 1) := by decide +kernel
theorem dX2_pairUp_39 : decode cX2_pairUp 39 = .ok (.iinc 3 1, 3) := by decide +kernel
theorem dX2_pairUp_42 : decode cX2_pairUp 42 = .ok (.goto (-19), 3) := by decide +kernel
theorem dX2_pairUp_45 : decode cX2_pairUp 45 = .ok (.iconst 0, 1) := by decide +kernel
theorem dX2_pairUp_46 : decode cX2_pairUp 46 = .ok (.istore_n 3, 1) := by decide +kernel
theorem dX2_pairUp_47 : decode cX2_pairUp 47 = .ok (.iload_n 2, 1) := by decide +kernel
theorem dX2_pairUp_48 : decode cX2_pairUp 48 = .ok (.istore 4, 2) := by decide +kernel
theorem dX2_pairUp_50 : decode cX2_pairUp 50 = .ok (.iconst 0, 1) := by decide +kernel
theorem dX2_pairUp_51 : decode cX2_pairUp 51 = .ok (.istore 5, 2) := by decide +kernel
theorem dX2_pairUp_53 : decode cX2_pairUp 53 = .ok (.iload 5, 2) := by decide +kernel
theorem dX2_pairUp_55 : decode cX2_pairUp 55 = .ok (.aload_n 0, 1) := by decide +kernel
theorem dX2_pairUp_56 : decode cX2_pairUp 56 = .ok (.getfield 21, 3) := by decide +kernel
theorem dX2_pairUp_59 : decode cX2_pairUp 59 = .ok (.if_icmp .ge 81, 3) := by decide +kernel
theorem dX2_pairUp_62 : decode cX2_pairUp 62 = .ok (.iload 4, 2) := by decide +kernel
theorem dX2_pairUp_64 : decode cX2_pairUp 64 = .ok (.ifCond .eq 76, 3) := by decide +kernel
theorem dX2_pairUp_67 : decode cX2_pairUp 67 = .ok (.iload 4, 2) := by decide +kernel
theorem dX2_pairUp_69 : decode cX2_pairUp 69 = .ok (.i2l, 1) := by decide +kernel
theorem dX2_pairUp_70 : decode cX2_pairUp 70 = .ok (.invokestatic 33, 3) := by decide +kernel
theorem dX2_pairUp_73 : decode cX2_pairUp 73 = .ok (.istore 6, 2) := by decide +kernel
theorem dX2_pairUp_75 : decode cX2_pairUp 75 = .ok (.aload_n 0, 1) := by decide +kernel
theorem dX2_pairUp_76 : decode cX2_pairUp 76 = .ok (.iload 4, 2) := by decide +kernel
theorem dX2_pairUp_78 : decode cX2_pairUp 78 = .ok (.iload 6, 2) := by decide +kernel
theorem dX2_pairUp_80 : decode cX2_pairUp 80 = .ok (.invokevirtual 37, 3) := by decide +kernel
theorem dX2_pairUp_83 : decode cX2_pairUp 83 = .ok (.istore 7, 2) := by decide +kernel
theorem dX2_pairUp_85 : decode cX2_pairUp 85 = .ok (.iload 4, 2) := by decide +kernel
theorem dX2_pairUp_87 : decode cX2_pairUp 87 = .ok (.iconst 1, 1) := by decide +kernel
theorem dX2_pairUp_88 : decode cX2_pairUp 88 = .ok (.iload 6, 2) := by decide +kernel
theorem dX2_pairUp_90 : decode cX2_pairUp 90 = .ok (.ishl, 1) := by decide +kernel
theorem dX2_pairUp_91 : decode cX2_pairUp 91 = .ok (.iconst (-1), 1) := by decide +kernel
theorem dX2_pairUp_92 : decode cX2_pairUp 92 = .ok (.ixor, 1) := by decide +kernel
theorem dX2_pairUp_93 : decode cX2_pairUp 93 = .ok (.iand, 1) := by decide +kernel
theorem dX2_pairUp_94 : decode cX2_pairUp 94 = .ok (.istore 4, 2) := by decide +kernel
theorem dX2_pairUp_96 : decode cX2_pairUp 96 = .ok (.iload 7, 2) := by decide +kernel
theorem dX2_pairUp_98 : decode cX2_pairUp 98 = .ok (.iconst (-1), 1) := by decide +kernel
theorem dX2_pairUp_99 : decode cX2_pairUp 99 = .ok (.if_icmp .eq 35, 3) := by decide +kernel
theorem dX2_pairUp_102 : decode cX2_pairUp 102 = .ok (.iload 4, 2) := by decide +kernel
theorem dX2_pairUp_104 : decode cX2_pairUp 104 = .ok (.iconst 1, 1) := by decide +kernel
theorem dX2_pairUp_105 : decode cX2_pairUp 105 = .ok (.iload 7, 2) := by decide +kernel
theorem dX2_pairUp_107 : decode cX2_pairUp 107 = .ok (.ishl, 1) := by decide +kernel
theorem dX2_pairUp_108 : decode cX2_pairUp 108 = .ok (.iconst (-1), 1) := by decide +kernel
theorem dX2_pairUp_109 : decode cX2_pairUp 109 = .ok (.ixor, 1) := by decide +kernel
theorem dX2_pairUp_110 : decode cX2_pairUp 110 = .ok (.iand, 1) := by decide +kernel
theorem dX2_pairUp_111 : decode cX2_pairUp 111 = .ok (.istore 4, 2) := by decide +kernel
theorem dX2_pairUp_113 : decode cX2_pairUp 113 = .ok (.aload_n 1, 1) := by decide +kernel
theorem dX2_pairUp_114 : decode cX2_pairUp 114 = .ok (.aload_n 0, 1) := by decide +kernel
theorem dX2_pairUp_115 : decode cX2_pairUp 115 = .ok (.getfield 9, 3) := by decide +kernel
theorem dX2_pairUp_118 : decode cX2_pairUp 118 = .ok (.iload 6, 2) := by decide +kernel
theorem dX2_pairUp_120 : decode cX2_pairUp 120 = .ok (.iaload, 1) := by decide +kernel
theorem dX2_pairUp_121 : decode cX2_pairUp 121 = .ok (.aload_n 0, 1) := by decide +kernel
theorem dX2_pairUp_122 : decode cX2_pairUp 122 = .ok (.getfield 9, 3) := by decide +kernel
theorem dX2_pairUp_125 : decode cX2_pairUp 125 = .ok (.iload 7, 2) := by decide +kernel
theorem dX2_pairUp_127 : decode cX2_pairUp 127 = .ok (.iaload, 1) := by decide +kernel
theorem dX2_pairUp_128 : decode cX2_pairUp 128 = .ok (.invokestatic 41, 3) := by decide +kernel
theorem dX2_pairUp_131 : decode cX2_pairUp 131 = .ok (.iinc 3 1, 3) := by decide +kernel
theorem dX2_pairUp_134 : decode cX2_pairUp 134 = .ok (.iinc 5 1, 3) := by decide +kernel
theorem dX2_pairUp_137 : decode cX2_pairUp 137 = .ok (.goto (-84), 3) := by decide +kernel
theorem dX2_pairUp_140 : decode cX2_pairUp 140 = .ok (.iload_n 3, 1) := by decide +kernel
theorem dX2_pairUp_141 : decode cX2_pairUp 141 = .ok (.ireturn, 1) := by decide +kernel
theorem dX3_block_0 : decode cX3_block 0 = .ok (.lconst 1, 1) := by decide +kernel
theorem dX3_block_1 : decode cX3_block 1 = .ok (.iload_n 1, 1) := by decide +kernel
theorem dX3_block_2 : decode cX3_block 2 = .ok (.iconst 1, 1) := by decide +kernel
theorem dX3_block_3 : decode cX3_block 3 = .ok (.iadd, 1) := by decide +kernel
theorem dX3_block_4 : decode cX3_block 4 = .ok (.lshl, 1) := by decide +kernel
theorem dX3_block_5 : decode cX3_block 5 = .ok (.lconst 1, 1) := by decide +kernel
theorem dX3_block_6 : decode cX3_block 6 = .ok (.iload_n 0, 1) := by decide +kernel
theorem dX3_block_7 : decode cX3_block 7 = .ok (.lshl, 1) := by decide +kernel
theorem dX3_block_8 : decode cX3_block 8 = .ok (.lsub, 1) := by decide +kernel
theorem dX3_block_9 : decode cX3_block 9 = .ok (.lstore 4, 2) := by decide +kernel
theorem dX3_block_11 : decode cX3_block 11 = .ok (.lconst 0, 1) := by decide +kernel
theorem dX3_block_12 : decode cX3_block 12 = .ok (.lstore 6, 2) := by decide +kernel
theorem dX3_block_14 : decode cX3_block 14 = .ok (.iload_n 2, 1) := by decide +kernel
theorem dX3_block_15 : decode cX3_block 15 = .ok (.istore 8, 2) := by decide +kernel
theorem dX3_block_17 : decode cX3_block 17 = .ok (.iload 8, 2) := by decide +kernel
theorem dX3_block_19 : decode cX3_block 19 = .ok (.iload_n 3, 1) := by decide +kernel
theorem dX3_block_20 : decode cX3_block 20 = .ok (.if_icmp .gt 22, 3) := by decide +kernel
theorem dX3_block_23 : decode cX3_block 23 = .ok (.lload 6, 2) := by decide +kernel
theorem dX3_block_25 : decode cX3_block 25 = .ok (.lload 4, 2) := by decide +kernel
theorem dX3_block_27 : decode cX3_block 27 = .ok (.bipush 6, 2) := by decide +kernel
theorem dX3_block_29 : decode cX3_block 29 = .ok (.iload 8, 2) := by decide +kernel
theorem dX3_block_31 : decode cX3_block 31 = .ok (.imul, 1) := by decide +kernel
theorem dX3_block_32 : decode cX3_block 32 = .ok (.lshl, 1) := by decide +kernel
theorem dX3_block_33 : decode cX3_block 33 = .ok (.lor, 1) := by decide +kernel
theorem dX3_block_34 : decode cX3_block 34 = .ok (.lstore 6, 2) := by decide +kernel
theorem dX3_block_36 : decode cX3_block 36 = .ok (.iinc 8 1, 3) := by decide +kernel
theorem dX3_block_39 : decode cX3_block 39 = .ok (.goto (-22), 3) := by decide +kernel
theorem dX3_block_42 : decode cX3_block 42 = .ok (.lload 6, 2) := by decide +kernel
theorem dX3_block_44 : decode cX3_block 44 = .ok (.lreturn, 1) := by decide +kernel
theorem dX3_layBlock_0 : decode cX3_layBlock 0 = .ok (.iload_n 1, 1) := by decide +kernel
theorem dX3_layBlock_1 : decode cX3_layBlock 1 = .ok (.iload_n 1, 1) := by decide +kernel
theorem dX3_layBlock_2 : decode cX3_layBlock 2 = .ok (.iload 4, 2) := by decide +kernel
theorem dX3_layBlock_4 : decode cX3_layBlock 4 = .ok (.iadd, 1) := by decide +kernel
theorem dX3_layBlock_5 : decode cX3_layBlock 5 = .ok (.iconst 1, 1) := by decide +kernel
theorem dX3_layBlock_6 : decode cX3_layBlock 6 = .ok (.isub, 1) := by decide +kernel
theorem dX3_layBlock_7 : decode cX3_layBlock 7 = .ok (.iload_n 2, 1) := by decide +kernel
theorem dX3_layBlock_8 : decode cX3_layBlock 8 = .ok (.iload_n 2, 1) := by decide +kernel
theorem dX3_layBlock_9 : decode cX3_layBlock 9 = .ok (.iload 4, 2) := by decide +kernel
theorem dX3_layBlock_11 : decode cX3_layBlock 11 = .ok (.iadd, 1) := by decide +kernel
theorem dX3_layBlock_12 : decode cX3_layBlock 12 = .ok (.iconst 1, 1) := by decide +kernel
theorem dX3_layBlock_13 : decode cX3_layBlock 13 = .ok (.isub, 1) := by decide +kernel
theorem dX3_layBlock_14 : decode cX3_layBlock 14 = .ok (.invokestatic 78, 3) := by decide +kernel
theorem dX3_layBlock_17 : decode cX3_layBlock 17 = .ok (.lstore 5, 2) := by decide +kernel
theorem dX3_layBlock_19 : decode cX3_layBlock 19 = .ok (.iconst 0, 1) := by decide +kernel
theorem dX3_layBlock_20 : decode cX3_layBlock 20 = .ok (.istore 7, 2) := by decide +kernel
theorem dX3_layBlock_22 : decode cX3_layBlock 22 = .ok (.iload 7, 2) := by decide +kernel
theorem dX3_layBlock_24 : decode cX3_layBlock 24 = .ok (.iload 4, 2) := by decide +kernel
theorem dX3_layBlock_26 : decode cX3_layBlock 26 = .ok (.if_icmp .ge 29, 3) := by decide +kernel
theorem dX3_layBlock_29 : decode cX3_layBlock 29 = .ok (.iload_n 3, 1) := by decide +kernel
theorem dX3_layBlock_30 : decode cX3_layBlock 30 = .ok (.iload 7, 2) := by decide +kernel
theorem dX3_layBlock_32 : decode cX3_layBlock 32 = .ok (.iadd, 1) := by decide +kernel
theorem dX3_layBlock_33 : decode cX3_layBlock 33 = .ok (.bipush 6, 2) := by decide +kernel
theorem dX3_layBlock_35 : decode cX3_layBlock 35 = .ok (.if_icmp .ge 20, 3) := by decide +kernel
theorem dX3_layBlock_38 : decode cX3_layBlock 38 = .ok (.aload_n 0, 1) := by decide +kernel
theorem dX3_layBlock_39 : decode cX3_layBlock 39 = .ok (.iload_n 3, 1) := by decide +kernel
theorem dX3_layBlock_40 : decode cX3_layBlock 40 = .ok (.iload 7, 2) := by decide +kernel
theorem dX3_layBlock_42 : decode cX3_layBlock 42 = .ok (.iadd, 1) := by decide +kernel
theorem dX3_layBlock_43 : decode cX3_layBlock 43 = .ok (.dup2, 1) := by decide +kernel
theorem dX3_layBlock_44 : decode cX3_layBlock 44 = .ok (.laload, 1) := by decide +kernel
theorem dX3_layBlock_45 : decode cX3_layBlock 45 = .ok (.lload 5, 2) := by decide +kernel
theorem dX3_layBlock_47 : decode cX3_layBlock 47 = .ok (.lor, 1) := by decide +kernel
theorem dX3_layBlock_48 : decode cX3_layBlock 48 = .ok (.lastore, 1) := by decide +kernel
theorem dX3_layBlock_49 : decode cX3_layBlock 49 = .ok (.iinc 7 1, 3) := by decide +kernel
theorem dX3_layBlock_52 : decode cX3_layBlock 52 = .ok (.goto (-30), 3) := by decide +kernel
theorem dX3_layBlock_55 : decode cX3_layBlock 55 = .ok (.return_, 1) := by decide +kernel
theorem dX3_maskOf_0 : decode cX3_maskOf 0 = .ok (.iload_n 0, 1) := by decide +kernel
theorem dX3_maskOf_1 : decode cX3_maskOf 1 = .ok (.iconst 1, 1) := by decide +kernel
theorem dX3_maskOf_2 : decode cX3_maskOf 2 = .ok (.isub, 1) := by decide +kernel
theorem dX3_maskOf_3 : decode cX3_maskOf 3 = .ok (.bipush 6, 2) := by decide +kernel
theorem dX3_maskOf_5 : decode cX3_maskOf 5 = .ok (.imul, 1) := by decide +kernel
theorem dX3_maskOf_6 : decode cX3_maskOf 6 = .ok (.iload_n 1, 1) := by decide +kernel
theorem dX3_maskOf_7 : decode cX3_maskOf 7 = .ok (.iadd, 1) := by decide +kernel
theorem dX3_maskOf_8 : decode cX3_maskOf 8 = .ok (.ireturn, 1) := by decide +kernel
theorem dX3_turned_0 : decode cX3_turned 0 = .ok (.iload_n 3, 1) := by decide +kernel
theorem dX3_turned_1 : decode cX3_turned 1 = .ok (.ifCond .ne 7, 3) := by decide +kernel
theorem dX3_turned_4 : decode cX3_turned 4 = .ok (.iload_n 0, 1) := by decide +kernel
theorem dX3_turned_5 : decode cX3_turned 5 = .ok (.goto 13, 3) := by decide +kernel
theorem dX3_turned_8 : decode cX3_turned 8 = .ok (.iload_n 3, 1) := by decide +kernel
theorem dX3_turned_9 : decode cX3_turned 9 = .ok (.iconst 1, 1) := by decide +kernel
theorem dX3_turned_10 : decode cX3_turned 10 = .ok (.if_icmp .ne 7, 3) := by decide +kernel
theorem dX3_turned_13 : decode cX3_turned 13 = .ok (.iload_n 1, 1) := by decide +kernel
theorem dX3_turned_14 : decode cX3_turned 14 = .ok (.goto 4, 3) := by decide +kernel
theorem dX3_turned_17 : decode cX3_turned 17 = .ok (.iload_n 2, 1) := by decide +kernel
theorem dX3_turned_18 : decode cX3_turned 18 = .ok (.ireturn, 1) := by decide +kernel
theorem dX3_layCell_0 : decode cX3_layCell 0 = .ok (.iload_n 1, 1) := by decide +kernel
theorem dX3_layCell_1 : decode cX3_layCell 1 = .ok (.iload_n 2, 1) := by decide +kernel
theorem dX3_layCell_2 : decode cX3_layCell 2 = .ok (.iload_n 3, 1) := by decide +kernel
theorem dX3_layCell_3 : decode cX3_layCell 3 = .ok (.getstatic 64, 3) := by decide +kernel
theorem dX3_layCell_6 : decode cX3_layCell 6 = .ok (.iconst 3, 1) := by decide +kernel
theorem dX3_layCell_7 : decode cX3_layCell 7 = .ok (.iload 4, 2) := by decide +kernel
theorem dX3_layCell_9 : decode cX3_layCell 9 = .ok (.imul, 1) := by decide +kernel
theorem dX3_layCell_10 : decode cX3_layCell 10 = .ok (.iaload, 1) := by decide +kernel
theorem dX3_layCell_11 : decode cX3_layCell 11 = .ok (.invokestatic 67, 3) := by decide +kernel
theorem dX3_layCell_14 : decode cX3_layCell 14 = .ok (.istore 5, 2) := by decide +kernel
theorem dX3_layCell_16 : decode cX3_layCell 16 = .ok (.iload_n 1, 1) := by decide +kernel
theorem dX3_layCell_17 : decode cX3_layCell 17 = .ok (.iload_n 2, 1) := by decide +kernel
theorem dX3_layCell_18 : decode cX3_layCell 18 = .ok (.iload_n 3, 1) := by decide +kernel
theorem dX3_layCell_19 : decode cX3_layCell 19 = .ok (.getstatic 64, 3) := by decide +kernel
theorem dX3_layCell_22 : decode cX3_layCell 22 = .ok (.iconst 3, 1) := by decide +kernel
theorem dX3_layCell_23 : decode cX3_layCell 23 = .ok (.iload 4, 2) := by decide +kernel
theorem dX3_layCell_25 : decode cX3_layCell 25 = .ok (.imul, 1) := by decide +kernel
theorem dX3_layCell_26 : decode cX3_layCell 26 = .ok (.iconst 1, 1) := by decide +kernel
theorem dX3_layCell_27 : decode cX3_layCell 27 = .ok (.iadd, 1) := by decide +kernel
theorem dX3_layCell_28 : decode cX3_layCell 28 = .ok (.iaload, 1) := by decide +kernel
theorem dX3_layCell_29 : decode cX3_layCell 29 = .ok (.invokestatic 67, 3) := by decide +kernel
theorem dX3_layCell_32 : decode cX3_layCell 32 = .ok (.istore 6, 2) := by decide +kernel
theorem dX3_layCell_34 : decode cX3_layCell 34 = .ok (.iload_n 1, 1) := by decide +kernel
theorem dX3_layCell_35 : decode cX3_layCell 35 = .ok (.iload_n 2, 1) := by decide +kernel
theorem dX3_layCell_36 : decode cX3_layCell 36 = .ok (.iload_n 3, 1) := by decide +kernel
theorem dX3_layCell_37 : decode cX3_layCell 37 = .ok (.getstatic 64, 3) := by decide +kernel
theorem dX3_layCell_40 : decode cX3_layCell 40 = .ok (.iconst 3, 1) := by decide +kernel
theorem dX3_layCell_41 : decode cX3_layCell 41 = .ok (.iload 4, 2) := by decide +kernel
theorem dX3_layCell_43 : decode cX3_layCell 43 = .ok (.imul, 1) := by decide +kernel
theorem dX3_layCell_44 : decode cX3_layCell 44 = .ok (.iconst 2, 1) := by decide +kernel
theorem dX3_layCell_45 : decode cX3_layCell 45 = .ok (.iadd, 1) := by decide +kernel
theorem dX3_layCell_46 : decode cX3_layCell 46 = .ok (.iaload, 1) := by decide +kernel
theorem dX3_layCell_47 : decode cX3_layCell 47 = .ok (.invokestatic 67, 3) := by decide +kernel
theorem dX3_layCell_50 : decode cX3_layCell 50 = .ok (.istore 7, 2) := by decide +kernel
theorem dX3_layCell_52 : decode cX3_layCell 52 = .ok (.iconst 1, 1) := by decide +kernel
theorem dX3_layCell_53 : decode cX3_layCell 53 = .ok (.istore 8, 2) := by decide +kernel
theorem dX3_layCell_55 : decode cX3_layCell 55 = .ok (.iload 8, 2) := by decide +kernel
theorem dX3_layCell_57 : decode cX3_layCell 57 = .ok (.aload_n 0, 1) := by decide +kernel
theorem dX3_layCell_58 : decode cX3_layCell 58 = .ok (.getfield 53, 3) := by decide +kernel
theorem dX3_layCell_61 : decode cX3_layCell 61 = .ok (.if_icmp .gt 48, 3) := by decide +kernel
theorem dX3_layCell_64 : decode cX3_layCell 64 = .ok (.iload 8, 2) := by decide +kernel
theorem dX3_layCell_66 : decode cX3_layCell 66 = .ok (.bipush 6, 2) := by decide +kernel
theorem dX3_layCell_68 : decode cX3_layCell 68 = .ok (.if_icmp .gt 41, 3) := by decide +kernel
theorem dX3_layCell_71 : decode cX3_layCell 71 = .ok (.aload_n 0, 1) := by decide +kernel
theorem dX3_layCell_72 : decode cX3_layCell 72 = .ok (.getfield 20, 3) := by decide +kernel
theorem dX3_layCell_75 : decode cX3_layCell 75 = .ok (.iload 8, 2) := by decide +kernel
theorem dX3_layCell_77 : decode cX3_layCell 77 = .ok (.iload 4, 2) := by decide +kernel
theorem dX3_layCell_79 : decode cX3_layCell 79 = .ok (.invokestatic 71, 3) := by decide +kernel
theorem dX3_layCell_82 : decode cX3_layCell 82 = .ok (.aaload, 1) := by decide +kernel
theorem dX3_layCell_83 : decode cX3_layCell 83 = .ok (.iload 8, 2) := by decide +kernel
theorem dX3_layCell_85 : decode cX3_layCell 85 = .ok (.iload 5, 2) := by decide +kernel
theorem dX3_layCell_87 : decode cX3_layCell 87 = .ok (.imul, 1) := by decide +kernel
theorem dX3_layCell_88 : decode cX3_layCell 88 = .ok (.iload 8, 2) := by decide +kernel
theorem dX3_layCell_90 : decode cX3_layCell 90 = .ok (.iload 6, 2) := by decide +kernel
theorem dX3_layCell_92 : decode cX3_layCell 92 = .ok (.imul, 1) := by decide +kernel
theorem dX3_layCell_93 : decode cX3_layCell 93 = .ok (.iload 8, 2) := by decide +kernel
theorem dX3_layCell_95 : decode cX3_layCell 95 = .ok (.iload 7, 2) := by decide +kernel
theorem dX3_layCell_97 : decode cX3_layCell 97 = .ok (.imul, 1) := by decide +kernel
theorem dX3_layCell_98 : decode cX3_layCell 98 = .ok (.iload 8, 2) := by decide +kernel
theorem dX3_layCell_100 : decode cX3_layCell 100 = .ok (.invokestatic 74, 3) := by decide +kernel
theorem dX3_layCell_103 : decode cX3_layCell 103 = .ok (.iinc 8 1, 3) := by decide +kernel
theorem dX3_layCell_106 : decode cX3_layCell 106 = .ok (.goto (-51), 3) := by decide +kernel
theorem dX3_layCell_109 : decode cX3_layCell 109 = .ok (.return_, 1) := by decide +kernel
theorem dX3_layLayer_0 : decode cX3_layLayer 0 = .ok (.aload_n 1, 1) := by decide +kernel
theorem dX3_layLayer_1 : decode cX3_layLayer 1 = .ok (.getfield 29, 3) := by decide +kernel
theorem dX3_layLayer_4 : decode cX3_layLayer 4 = .ok (.iload_n 2, 1) := by decide +kernel
theorem dX3_layLayer_5 : decode cX3_layLayer 5 = .ok (.iaload, 1) := by decide +kernel
theorem dX3_layLayer_6 : decode cX3_layLayer 6 = .ok (.aload_n 0, 1) := by decide +kernel
theorem dX3_layLayer_7 : decode cX3_layLayer 7 = .ok (.getfield 9, 3) := by decide +kernel
theorem dX3_layLayer_10 : decode cX3_layLayer 10 = .ok (.iconst 0, 1) := by decide +kernel
theorem dX3_layLayer_11 : decode cX3_layLayer 11 = .ok (.iaload, 1) := by decide +kernel
theorem dX3_layLayer_12 : decode cX3_layLayer 12 = .ok (.isub, 1) := by decide +kernel
theorem dX3_layLayer_13 : decode cX3_layLayer 13 = .ok (.istore_n 3, 1) := by decide +kernel
theorem dX3_layLayer_14 : decode cX3_layLayer 14 = .ok (.aload_n 1, 1) := by decide +kernel
theorem dX3_layLayer_15 : decode cX3_layLayer 15 = .ok (.getfield 38, 3) := by decide +kernel
theorem dX3_layLayer_18 : decode cX3_layLayer 18 = .ok (.iload_n 2, 1) := by decide +kernel
theorem dX3_layLayer_19 : decode cX3_layLayer 19 = .ok (.iaload, 1) := by decide +kernel
theorem dX3_layLayer_20 : decode cX3_layLayer 20 = .ok (.aload_n 0, 1) := by decide +kernel
theorem dX3_layLayer_21 : decode cX3_layLayer 21 = .ok (.getfield 9, 3) := by decide +kernel
theorem dX3_layLayer_24 : decode cX3_layLayer 24 = .ok (.iconst 1, 1) := by decide +kernel
theorem dX3_layLayer_25 : decode cX3_layLayer 25 = .ok (.iaload, 1) := by decide +kernel
theorem dX3_layLayer_26 : decode cX3_layLayer 26 = .ok (.isub, 1) := by decide +kernel
theorem dX3_layLayer_27 : decode cX3_layLayer 27 = .ok (.istore 4, 2) := by decide +kernel
theorem dX3_layLayer_29 : decode cX3_layLayer 29 = .ok (.iconst 0, 1) := by decide +kernel
theorem dX3_layLayer_30 : decode cX3_layLayer 30 = .ok (.istore 5, 2) := by decide +kernel
theorem dX3_layLayer_32 : decode cX3_layLayer 32 = .ok (.iload 5, 2) := by decide +kernel
theorem dX3_layLayer_34 : decode cX3_layLayer 34 = .ok (.aload_n 1, 1) := by decide +kernel
theorem dX3_layLayer_35 : decode cX3_layLayer 35 = .ok (.getfield 47, 3) := by decide +kernel
theorem dX3_layLayer_38 : decode cX3_layLayer 38 = .ok (.iload_n 2, 1) := by decide +kernel
theorem dX3_layLayer_39 : decode cX3_layLayer 39 = .ok (.iaload, 1) := by decide +kernel
theorem dX3_layLayer_40 : decode cX3_layLayer 40 = .ok (.if_icmp .ge 61, 3) := by decide +kernel
theorem dX3_layLayer_43 : decode cX3_layLayer 43 = .ok (.iconst 0, 1) := by decide +kernel
theorem dX3_layLayer_44 : decode cX3_layLayer 44 = .ok (.istore 6, 2) := by decide +kernel
theorem dX3_layLayer_46 : decode cX3_layLayer 46 = .ok (.iload 6, 2) := by decide +kernel
theorem dX3_layLayer_48 : decode cX3_layLayer 48 = .ok (.aload_n 1, 1) := by decide +kernel
theorem dX3_layLayer_49 : decode cX3_layLayer 49 = .ok (.getfield 41, 3) := by decide +kernel
theorem dX3_layLayer_52 : decode cX3_layLayer 52 = .ok (.iload_n 2, 1) := by decide +kernel
theorem dX3_layLayer_53 : decode cX3_layLayer 53 = .ok (.iaload, 1) := by decide +kernel
theorem dX3_layLayer_54 : decode cX3_layLayer 54 = .ok (.if_icmp .ge 41, 3) := by decide +kernel
theorem dX3_layLayer_57 : decode cX3_layLayer 57 = .ok (.iconst 0, 1) := by decide +kernel
theorem dX3_layLayer_58 : decode cX3_layLayer 58 = .ok (.istore 7, 2) := by decide +kernel
theorem dX3_layLayer_60 : decode cX3_layLayer 60 = .ok (.iload 7, 2) := by decide +kernel
theorem dX3_layLayer_62 : decode cX3_layLayer 62 = .ok (.bipush 6, 2) := by decide +kernel
theorem dX3_layLayer_64 : decode cX3_layLayer 64 = .ok (.if_icmp .ge 25, 3) := by decide +kernel
theorem dX3_layLayer_67 : decode cX3_layLayer 67 = .ok (.aload_n 0, 1) := by decide +kernel
theorem dX3_layLayer_68 : decode cX3_layLayer 68 = .ok (.iload_n 3, 1) := by decide +kernel
theorem dX3_layLayer_69 : decode cX3_layLayer 69 = .ok (.iload 6, 2) := by decide +kernel
theorem dX3_layLayer_71 : decode cX3_layLayer 71 = .ok (.iadd, 1) := by decide +kernel
theorem dX3_layLayer_72 : decode cX3_layLayer 72 = .ok (.iload 4, 2) := by decide +kernel
theorem dX3_layLayer_74 : decode cX3_layLayer 74 = .ok (.iload 5, 2) := by decide +kernel
theorem dX3_layLayer_76 : decode cX3_layLayer 76 = .ok (.iadd, 1) := by decide +kernel
theorem dX3_layLayer_77 : decode cX3_layLayer 77 = .ok (.iload_n 2, 1) := by decide +kernel
theorem dX3_layLayer_78 : decode cX3_layLayer 78 = .ok (.iload 7, 2) := by decide +kernel
theorem dX3_layLayer_80 : decode cX3_layLayer 80 = .ok (.invokevirtual 60, 3) := by decide +kernel
theorem dX3_layLayer_83 : decode cX3_layLayer 83 = .ok (.iinc 7 1, 3) := by decide +kernel
theorem dX3_layLayer_86 : decode cX3_layLayer 86 = .ok (.goto (-26), 3) := by decide +kernel
theorem dX3_layLayer_89 : decode cX3_layLayer 89 = .ok (.iinc 6 1, 3) := by decide +kernel
theorem dX3_layLayer_92 : decode cX3_layLayer 92 = .ok (.goto (-46), 3) := by decide +kernel
theorem dX3_layLayer_95 : decode cX3_layLayer 95 = .ok (.iinc 5 1, 3) := by decide +kernel
theorem dX3_layLayer_98 : decode cX3_layLayer 98 = .ok (.goto (-66), 3) := by decide +kernel
theorem dX3_layLayer_101 : decode cX3_layLayer 101 = .ok (.return_, 1) := by decide +kernel
theorem dX3_init_0 : decode cX3_init 0 = .ok (.aload_n 0, 1) := by decide +kernel
theorem dX3_init_1 : decode cX3_init 1 = .ok (.invokespecial 3, 3) := by decide +kernel
theorem dX3_init_4 : decode cX3_init 4 = .ok (.aload_n 0, 1) := by decide +kernel
theorem dX3_init_5 : decode cX3_init 5 = .ok (.iconst 3, 1) := by decide +kernel
theorem dX3_init_6 : decode cX3_init 6 = .ok (.newarray .int, 2) := by decide +kernel
theorem dX3_init_8 : decode cX3_init 8 = .ok (.putfield 9, 3) := by decide +kernel
theorem dX3_init_11 : decode cX3_init 11 = .ok (.aload_n 0, 1) := by decide +kernel
theorem dX3_init_12 : decode cX3_init 12 = .ok (.iconst 3, 1) := by decide +kernel
theorem dX3_init_13 : decode cX3_init 13 = .ok (.newarray .int, 2) := by decide +kernel
theorem dX3_init_15 : decode cX3_init 15 = .ok (.putfield 15, 3) := by decide +kernel
theorem dX3_init_18 : decode cX3_init 18 = .ok (.aload_n 0, 1) := by decide +kernel
theorem dX3_init_19 : decode cX3_init 19 = .ok (.bipush 36, 2) := by decide +kernel
theorem dX3_init_21 : decode cX3_init 21 = .ok (.bipush 6, 2) := by decide +kernel
theorem dX3_init_23 : decode cX3_init 23 = .ok (.multianewarray 18 2, 4) := by decide +kernel
theorem dX3_init_27 : decode cX3_init 27 = .ok (.putfield 20, 3) := by decide +kernel
theorem dX3_init_30 : decode cX3_init 30 = .ok (.iconst 0, 1) := by decide +kernel
theorem dX3_init_31 : decode cX3_init 31 = .ok (.istore_n 2, 1) := by decide +kernel
theorem dX3_init_32 : decode cX3_init 32 = .ok (.iconst 0, 1) := by decide +kernel
theorem dX3_init_33 : decode cX3_init 33 = .ok (.istore_n 3, 1) := by decide +kernel
theorem dX3_init_34 : decode cX3_init 34 = .ok (.iconst 0, 1) := by decide +kernel
theorem dX3_init_35 : decode cX3_init 35 = .ok (.istore 4, 2) := by decide +kernel
theorem dX3_init_37 : decode cX3_init 37 = .ok (.aload_n 0, 1) := by decide +kernel
theorem dX3_init_38 : decode cX3_init 38 = .ok (.getfield 9, 3) := by decide +kernel
theorem dX3_init_41 : decode cX3_init 41 = .ok (.iconst 0, 1) := by decide +kernel
theorem dX3_init_42 : decode cX3_init 42 = .ok (.bipush 6, 2) := by decide +kernel
theorem dX3_init_44 : decode cX3_init 44 = .ok (.iastore, 1) := by decide +kernel
theorem dX3_init_45 : decode cX3_init 45 = .ok (.aload_n 0, 1) := by decide +kernel
theorem dX3_init_46 : decode cX3_init 46 = .ok (.getfield 9, 3) := by decide +kernel
theorem dX3_init_49 : decode cX3_init 49 = .ok (.iconst 1, 1) := by decide +kernel
theorem dX3_init_50 : decode cX3_init 50 = .ok (.bipush 6, 2) := by decide +kernel
theorem dX3_init_52 : decode cX3_init 52 = .ok (.iastore, 1) := by decide +kernel
theorem dX3_init_53 : decode cX3_init 53 = .ok (.iconst 0, 1) := by decide +kernel
theorem dX3_init_54 : decode cX3_init 54 = .ok (.istore 5, 2) := by decide +kernel
theorem dX3_init_56 : decode cX3_init 56 = .ok (.iload 5, 2) := by decide +kernel
theorem dX3_init_58 : decode cX3_init 58 = .ok (.aload_n 1, 1) := by decide +kernel
theorem dX3_init_59 : decode cX3_init 59 = .ok (.getfield 23, 3) := by decide +kernel
theorem dX3_init_62 : decode cX3_init 62 = .ok (.if_icmp .ge 120, 3) := by decide +kernel
theorem dX3_init_65 : decode cX3_init 65 = .ok (.iload 5, 2) := by decide +kernel
theorem dX3_init_67 : decode cX3_init 67 = .ok (.bipush 6, 2) := by decide +kernel
theorem dX3_init_69 : decode cX3_init 69 = .ok (.if_icmp .ge 113, 3) := by decide +kernel
theorem dX3_init_72 : decode cX3_init 72 = .ok (.aload_n 0, 1) := by decide +kernel
theorem dX3_init_73 : decode cX3_init 73 = .ok (.getfield 9, 3) := by decide +kernel
theorem dX3_init_76 : decode cX3_init 76 = .ok (.iconst 0, 1) := by decide +kernel
theorem dX3_init_77 : decode cX3_init 77 = .ok (.aload_n 0, 1) := by decide +kernel
theorem dX3_init_78 : decode cX3_init 78 = .ok (.getfield 9, 3) := by decide +kernel
theorem dX3_init_81 : decode cX3_init 81 = .ok (.iconst 0, 1) := by decide +kernel
theorem dX3_init_82 : decode cX3_init 82 = .ok (.iaload, 1) := by decide +kernel
theorem dX3_init_83 : decode cX3_init 83 = .ok (.aload_n 1, 1) := by decide +kernel
theorem dX3_init_84 : decode cX3_init 84 = .ok (.getfield 29, 3) := by decide +kernel
theorem dX3_init_87 : decode cX3_init 87 = .ok (.iload 5, 2) := by decide +kernel
theorem dX3_init_89 : decode cX3_init 89 = .ok (.iaload, 1) := by decide +kernel
theorem dX3_init_90 : decode cX3_init 90 = .ok (.invokestatic 32, 3) := by decide +kernel
theorem dX3_init_93 : decode cX3_init 93 = .ok (.iastore, 1) := by decide +kernel
theorem dX3_init_94 : decode cX3_init 94 = .ok (.aload_n 0, 1) := by decide +kernel
theorem dX3_init_95 : decode cX3_init 95 = .ok (.getfield 9, 3) := by decide +kernel
theorem dX3_init_98 : decode cX3_init 98 = .ok (.iconst 1, 1) := by decide +kernel
theorem dX3_init_99 : decode cX3_init 99 = .ok (.aload_n 0, 1) := by decide +kernel
theorem dX3_init_100 : decode cX3_init 100 = .ok (.getfield 9, 3) := by decide +kernel
theorem dX3_init_103 : decode cX3_init 103 = .ok (.iconst 1, 1) := by decide +kernel
theorem dX3_init_104 : decode cX3_init 104 = .ok (.iaload, 1) := by decide +kernel
theorem dX3_init_105 : decode cX3_init 105 = .ok (.aload_n 1, 1) := by decide +kernel
theorem dX3_init_106 : decode cX3_init 106 = .ok (.getfield 38, 3) := by decide +kernel
theorem dX3_init_109 : decode cX3_init 109 = .ok (.iload 5, 2) := by decide +kernel
theorem dX3_init_111 : decode cX3_init 111 = .ok (.iaload, 1) := by decide +kernel
theorem dX3_init_112 : decode cX3_init 112 = .ok (.invokestatic 32, 3) := by decide +kernel
theorem dX3_init_115 : decode cX3_init 115 = .ok (.iastore, 1) := by decide +kernel
theorem dX3_init_116 : decode cX3_init 116 = .ok (.iload_n 2, 1) := by decide +kernel
theorem dX3_init_117 : decode cX3_init 117 = .ok (.aload_n 1, 1) := by decide +kernel
theorem dX3_init_118 : decode cX3_init 118 = .ok (.getfield 29, 3) := by decide +kernel
theorem dX3_init_121 : decode cX3_init 121 = .ok (.iload 5, 2) := by decide +kernel
theorem dX3_init_123 : decode cX3_init 123 = .ok (.iaload, 1) := by decide +kernel
theorem dX3_init_124 : decode cX3_init 124 = .ok (.aload_n 1, 1) := by decide +kernel
theorem dX3_init_125 : decode cX3_init 125 = .ok (.getfield 41, 3) := by decide +kernel
theorem dX3_init_128 : decode cX3_init 128 = .ok (.iload 5, 2) := by decide +kernel
theorem dX3_init_130 : decode cX3_init 130 = .ok (.iaload, 1) := by decide +kernel
theorem dX3_init_131 : decode cX3_init 131 = .ok (.iadd, 1) := by decide +kernel
theorem dX3_init_132 : decode cX3_init 132 = .ok (.invokestatic 44, 3) := by decide +kernel
theorem dX3_init_135 : decode cX3_init 135 = .ok (.istore_n 2, 1) := by decide +kernel
theorem dX3_init_136 : decode cX3_init 136 = .ok (.iload_n 3, 1) := by decide +kernel
theorem dX3_init_137 : decode cX3_init 137 = .ok (.aload_n 1, 1) := by decide +kernel
theorem dX3_init_138 : decode cX3_init 138 = .ok (.getfield 38, 3) := by decide +kernel
theorem dX3_init_141 : decode cX3_init 141 = .ok (.iload 5, 2) := by decide +kernel
theorem dX3_init_143 : decode cX3_init 143 = .ok (.iaload, 1) := by decide +kernel
theorem dX3_init_144 : decode cX3_init 144 = .ok (.aload_n 1, 1) := by decide +kernel
theorem dX3_init_145 : decode cX3_init 145 = .ok (.getfield 47, 3) := by decide +kernel
theorem dX3_init_148 : decode cX3_init 148 = .ok (.iload 5, 2) := by decide +kernel
theorem dX3_init_150 : decode cX3_init 150 = .ok (.iaload, 1) := by decide +kernel
theorem dX3_init_151 : decode cX3_init 151 = .ok (.iadd, 1) := by decide +kernel
theorem dX3_init_152 : decode cX3_init 152 = .ok (.invokestatic 44, 3) := by decide +kernel
theorem dX3_init_155 : decode cX3_init 155 = .ok (.istore_n 3, 1) := by decide +kernel
theorem dX3_init_156 : decode cX3_init 156 = .ok (.iload 4, 2) := by decide +kernel
theorem dX3_init_158 : decode cX3_init 158 = .ok (.aload_n 1, 1) := by decide +kernel
theorem dX3_init_159 : decode cX3_init 159 = .ok (.getfield 41, 3) := by decide +kernel
theorem dX3_init_162 : decode cX3_init 162 = .ok (.iload 5, 2) := by decide +kernel
theorem dX3_init_164 : decode cX3_init 164 = .ok (.iaload, 1) := by decide +kernel
theorem dX3_init_165 : decode cX3_init 165 = .ok (.aload_n 1, 1) := by decide +kernel
theorem dX3_init_166 : decode cX3_init 166 = .ok (.getfield 47, 3) := by decide +kernel
theorem dX3_init_169 : decode cX3_init 169 = .ok (.iload 5, 2) := by decide +kernel
theorem dX3_init_171 : decode cX3_init 171 = .ok (.iaload, 1) := by decide +kernel
theorem dX3_init_172 : decode cX3_init 172 = .ok (.imul, 1) := by decide +kernel
theorem dX3_init_173 : decode cX3_init 173 = .ok (.iadd, 1) := by decide +kernel
theorem dX3_init_174 : decode cX3_init 174 = .ok (.istore 4, 2) := by decide +kernel
theorem dX3_init_176 : decode cX3_init 176 = .ok (.iinc 5 1, 3) := by decide +kernel
theorem dX3_init_179 : decode cX3_init 179 = .ok (.goto (-123), 3) := by decide +kernel
theorem dX3_init_182 : decode cX3_init 182 = .ok (.aload_n 0, 1) := by decide +kernel
theorem dX3_init_183 : decode cX3_init 183 = .ok (.getfield 15, 3) := by decide +kernel
theorem dX3_init_186 : decode cX3_init 186 = .ok (.iconst 0, 1) := by decide +kernel
theorem dX3_init_187 : decode cX3_init 187 = .ok (.iload_n 2, 1) := by decide +kernel
theorem dX3_init_188 : decode cX3_init 188 = .ok (.aload_n 0, 1) := by decide +kernel
theorem dX3_init_189 : decode cX3_init 189 = .ok (.getfield 9, 3) := by decide +kernel
theorem dX3_init_192 : decode cX3_init 192 = .ok (.iconst 0, 1) := by decide +kernel
theorem dX3_init_193 : decode cX3_init 193 = .ok (.iaload, 1) := by decide +kernel
theorem dX3_init_194 : decode cX3_init 194 = .ok (.isub, 1) := by decide +kernel
theorem dX3_init_195 : decode cX3_init 195 = .ok (.iastore, 1) := by decide +kernel
theorem dX3_init_196 : decode cX3_init 196 = .ok (.aload_n 0, 1) := by decide +kernel
theorem dX3_init_197 : decode cX3_init 197 = .ok (.getfield 15, 3) := by decide +kernel
theorem dX3_init_200 : decode cX3_init 200 = .ok (.iconst 1, 1) := by decide +kernel
theorem dX3_init_201 : decode cX3_init 201 = .ok (.iload_n 3, 1) := by decide +kernel
theorem dX3_init_202 : decode cX3_init 202 = .ok (.aload_n 0, 1) := by decide +kernel
theorem dX3_init_203 : decode cX3_init 203 = .ok (.getfield 9, 3) := by decide +kernel
theorem dX3_init_206 : decode cX3_init 206 = .ok (.iconst 1, 1) := by decide +kernel
theorem dX3_init_207 : decode cX3_init 207 = .ok (.iaload, 1) := by decide +kernel
theorem dX3_init_208 : decode cX3_init 208 = .ok (.isub, 1) := by decide +kernel
theorem dX3_init_209 : decode cX3_init 209 = .ok (.iastore, 1) := by decide +kernel
theorem dX3_init_210 : decode cX3_init 210 = .ok (.aload_n 0, 1) := by decide +kernel
theorem dX3_init_211 : decode cX3_init 211 = .ok (.getfield 15, 3) := by decide +kernel
theorem dX3_init_214 : decode cX3_init 214 = .ok (.iconst 2, 1) := by decide +kernel
theorem dX3_init_215 : decode cX3_init 215 = .ok (.aload_n 1, 1) := by decide +kernel
theorem dX3_init_216 : decode cX3_init 216 = .ok (.getfield 23, 3) := by decide +kernel
theorem dX3_init_219 : decode cX3_init 219 = .ok (.iastore, 1) := by decide +kernel
theorem dX3_init_220 : decode cX3_init 220 = .ok (.aload_n 0, 1) := by decide +kernel
theorem dX3_init_221 : decode cX3_init 221 = .ok (.iload 4, 2) := by decide +kernel
theorem dX3_init_223 : decode cX3_init 223 = .ok (.putfield 50, 3) := by decide +kernel
theorem dX3_init_226 : decode cX3_init 226 = .ok (.iconst 1, 1) := by decide +kernel
theorem dX3_init_227 : decode cX3_init 227 = .ok (.aload_n 0, 1) := by decide +kernel
theorem dX3_init_228 : decode cX3_init 228 = .ok (.getfield 15, 3) := by decide +kernel
theorem dX3_init_231 : decode cX3_init 231 = .ok (.iconst 0, 1) := by decide +kernel
theorem dX3_init_232 : decode cX3_init 232 = .ok (.iaload, 1) := by decide +kernel
theorem dX3_init_233 : decode cX3_init 233 = .ok (.aload_n 0, 1) := by decide +kernel
theorem dX3_init_234 : decode cX3_init 234 = .ok (.getfield 15, 3) := by decide +kernel
theorem dX3_init_237 : decode cX3_init 237 = .ok (.iconst 1, 1) := by decide +kernel
theorem dX3_init_238 : decode cX3_init 238 = .ok (.iaload, 1) := by decide +kernel
theorem dX3_init_239 : decode cX3_init 239 = .ok (.aload_n 0, 1) := by decide +kernel
theorem dX3_init_240 : decode cX3_init 240 = .ok (.getfield 15, 3) := by decide +kernel
theorem dX3_init_243 : decode cX3_init 243 = .ok (.iconst 2, 1) := by decide +kernel
theorem dX3_init_244 : decode cX3_init 244 = .ok (.iaload, 1) := by decide +kernel
theorem dX3_init_245 : decode cX3_init 245 = .ok (.invokestatic 44, 3) := by decide +kernel
theorem dX3_init_248 : decode cX3_init 248 = .ok (.invokestatic 44, 3) := by decide +kernel
theorem dX3_init_251 : decode cX3_init 251 = .ok (.invokestatic 44, 3) := by decide +kernel
theorem dX3_init_254 : decode cX3_init 254 = .ok (.istore 5, 2) := by decide +kernel
theorem dX3_init_256 : decode cX3_init 256 = .ok (.aload_n 0, 1) := by decide +kernel
theorem dX3_init_257 : decode cX3_init 257 = .ok (.bipush 6, 2) := by decide +kernel
theorem dX3_init_259 : decode cX3_init 259 = .ok (.iload 5, 2) := by decide +kernel
theorem dX3_init_261 : decode cX3_init 261 = .ok (.idiv, 1) := by decide +kernel
theorem dX3_init_262 : decode cX3_init 262 = .ok (.putfield 53, 3) := by decide +kernel
theorem dX3_init_265 : decode cX3_init 265 = .ok (.iconst 0, 1) := by decide +kernel
theorem dX3_init_266 : decode cX3_init 266 = .ok (.istore 6, 2) := by decide +kernel
theorem dX3_init_268 : decode cX3_init 268 = .ok (.iload 6, 2) := by decide +kernel
theorem dX3_init_270 : decode cX3_init 270 = .ok (.aload_n 1, 1) := by decide +kernel
theorem dX3_init_271 : decode cX3_init 271 = .ok (.getfield 23, 3) := by decide +kernel
theorem dX3_init_274 : decode cX3_init 274 = .ok (.if_icmp .ge 23, 3) := by decide +kernel
theorem dX3_init_277 : decode cX3_init 277 = .ok (.iload 6, 2) := by decide +kernel
theorem dX3_init_279 : decode cX3_init 279 = .ok (.bipush 6, 2) := by decide +kernel
theorem dX3_init_281 : decode cX3_init 281 = .ok (.if_icmp .ge 16, 3) := by decide +kernel
theorem dX3_init_284 : decode cX3_init 284 = .ok (.aload_n 0, 1) := by decide +kernel
theorem dX3_init_285 : decode cX3_init 285 = .ok (.aload_n 1, 1) := by decide +kernel
theorem dX3_init_286 : decode cX3_init 286 = .ok (.iload 6, 2) := by decide +kernel
theorem dX3_init_288 : decode cX3_init 288 = .ok (.invokevirtual 56, 3) := by decide +kernel
theorem dX3_init_291 : decode cX3_init 291 = .ok (.iinc 6 1, 3) := by decide +kernel
theorem dX3_init_294 : decode cX3_init 294 = .ok (.goto (-26), 3) := by decide +kernel
theorem dX3_init_297 : decode cX3_init 297 = .ok (.return_, 1) := by decide +kernel
theorem dX4_init_0 : decode cX4_init 0 = .ok (.aload_n 0, 1) := by decide +kernel
theorem dX4_init_1 : decode cX4_init 1 = .ok (.invokespecial 1, 3) := by decide +kernel
theorem dX4_init_4 : decode cX4_init 4 = .ok (.aload_n 0, 1) := by decide +kernel
theorem dX4_init_5 : decode cX4_init 5 = .ok (.new 7, 3) := by decide +kernel
theorem dX4_init_8 : decode cX4_init 8 = .ok (.dup, 1) := by decide +kernel
theorem dX4_init_9 : decode cX4_init 9 = .ok (.invokespecial 9, 3) := by decide +kernel
theorem dX4_init_12 : decode cX4_init 12 = .ok (.putfield 10, 3) := by decide +kernel
theorem dX4_init_15 : decode cX4_init 15 = .ok (.aload_n 0, 1) := by decide +kernel
theorem dX4_init_16 : decode cX4_init 16 = .ok (.iload_n 1, 1) := by decide +kernel
theorem dX4_init_17 : decode cX4_init 17 = .ok (.putfield 16, 3) := by decide +kernel
theorem dX4_init_20 : decode cX4_init 20 = .ok (.aload_n 0, 1) := by decide +kernel
theorem dX4_init_21 : decode cX4_init 21 = .ok (.iload_n 2, 1) := by decide +kernel
theorem dX4_init_22 : decode cX4_init 22 = .ok (.putfield 20, 3) := by decide +kernel
theorem dX4_init_25 : decode cX4_init 25 = .ok (.aload_n 0, 1) := by decide +kernel
theorem dX4_init_26 : decode cX4_init 26 = .ok (.iload_n 3, 1) := by decide +kernel
theorem dX4_init_27 : decode cX4_init 27 = .ok (.putfield 23, 3) := by decide +kernel
theorem dX4_init_30 : decode cX4_init 30 = .ok (.return_, 1) := by decide +kernel
theorem dX5_init_0 : decode cX5_init 0 = .ok (.aload_n 0, 1) := by decide +kernel
theorem dX5_init_1 : decode cX5_init 1 = .ok (.invokespecial 3, 3) := by decide +kernel
theorem dX5_init_4 : decode cX5_init 4 = .ok (.aload_n 0, 1) := by decide +kernel
theorem dX5_init_5 : decode cX5_init 5 = .ok (.bipush 10, 2) := by decide +kernel
theorem dX5_init_7 : decode cX5_init 7 = .ok (.newarray .int, 2) := by decide +kernel
theorem dX5_init_9 : decode cX5_init 9 = .ok (.putfield 9, 3) := by decide +kernel
theorem dX5_init_12 : decode cX5_init 12 = .ok (.aload_n 0, 1) := by decide +kernel
theorem dX5_init_13 : decode cX5_init 13 = .ok (.bipush 10, 2) := by decide +kernel
theorem dX5_init_15 : decode cX5_init 15 = .ok (.newarray .int, 2) := by decide +kernel
theorem dX5_init_17 : decode cX5_init 17 = .ok (.putfield 15, 3) := by decide +kernel
theorem dX5_init_20 : decode cX5_init 20 = .ok (.aload_n 0, 1) := by decide +kernel
theorem dX5_init_21 : decode cX5_init 21 = .ok (.iconst 0, 1) := by decide +kernel
theorem dX5_init_22 : decode cX5_init 22 = .ok (.putfield 18, 3) := by decide +kernel
theorem dX5_init_25 : decode cX5_init 25 = .ok (.return_, 1) := by decide +kernel
theorem dX5_put_0 : decode cX5_put 0 = .ok (.iconst 0, 1) := by decide +kernel
theorem dX5_put_1 : decode cX5_put 1 = .ok (.istore_n 3, 1) := by decide +kernel
theorem dX5_put_2 : decode cX5_put 2 = .ok (.iload_n 3, 1) := by decide +kernel
theorem dX5_put_3 : decode cX5_put 3 = .ok (.aload_n 0, 1) := by decide +kernel
theorem dX5_put_4 : decode cX5_put 4 = .ok (.getfield 18, 3) := by decide +kernel
theorem dX5_put_7 : decode cX5_put 7 = .ok (.if_icmp .ge 34, 3) := by decide +kernel
theorem dX5_put_10 : decode cX5_put 10 = .ok (.iload_n 3, 1) := by decide +kernel
theorem dX5_put_11 : decode cX5_put 11 = .ok (.bipush 10, 2) := by decide +kernel
theorem dX5_put_13 : decode cX5_put 13 = .ok (.if_icmp .ge 28, 3) := by decide +kernel
theorem dX5_put_16 : decode cX5_put 16 = .ok (.aload_n 0, 1) := by decide +kernel
theorem dX5_put_17 : decode cX5_put 17 = .ok (.getfield 9, 3) := by decide +kernel
theorem dX5_put_20 : decode cX5_put 20 = .ok (.iload_n 3, 1) := by decide +kernel
theorem dX5_put_21 : decode cX5_put 21 = .ok (.iaload, 1) := by decide +kernel
theorem dX5_put_22 : decode cX5_put 22 = .ok (.iload_n 1, 1) := by decide +kernel
theorem dX5_put_23 : decode cX5_put 23 = .ok (.if_icmp .ne 12, 3) := by decide +kernel
theorem dX5_put_26 : decode cX5_put 26 = .ok (.aload_n 0, 1) := by decide +kernel
theorem dX5_put_27 : decode cX5_put 27 = .ok (.getfield 15, 3) := by decide +kernel
theorem dX5_put_30 : decode cX5_put 30 = .ok (.iload_n 3, 1) := by decide +kernel
theorem dX5_put_31 : decode cX5_put 31 = .ok (.iload_n 2, 1) := by decide +kernel
theorem dX5_put_32 : decode cX5_put 32 = .ok (.iastore, 1) := by decide +kernel
theorem dX5_put_33 : decode cX5_put 33 = .ok (.iconst 1, 1) := by decide +kernel
theorem dX5_put_34 : decode cX5_put 34 = .ok (.ireturn, 1) := by decide +kernel
theorem dX5_put_35 : decode cX5_put 35 = .ok (.iinc 3 1, 3) := by decide +kernel
theorem dX5_put_38 : decode cX5_put 38 = .ok (.goto (-36), 3) := by decide +kernel
theorem dX5_put_41 : decode cX5_put 41 = .ok (.aload_n 0, 1) := by decide +kernel
theorem dX5_put_42 : decode cX5_put 42 = .ok (.getfield 18, 3) := by decide +kernel
theorem dX5_put_45 : decode cX5_put 45 = .ok (.bipush 10, 2) := by decide +kernel
theorem dX5_put_47 : decode cX5_put 47 = .ok (.if_icmp .lt 5, 3) := by decide +kernel
theorem dX5_put_50 : decode cX5_put 50 = .ok (.iconst 0, 1) := by decide +kernel
theorem dX5_put_51 : decode cX5_put 51 = .ok (.ireturn, 1) := by decide +kernel
theorem dX5_put_52 : decode cX5_put 52 = .ok (.aload_n 0, 1) := by decide +kernel
theorem dX5_put_53 : decode cX5_put 53 = .ok (.getfield 9, 3) := by decide +kernel
theorem dX5_put_56 : decode cX5_put 56 = .ok (.aload_n 0, 1) := by decide +kernel
theorem dX5_put_57 : decode cX5_put 57 = .ok (.getfield 18, 3) := by decide +kernel
theorem dX5_put_60 : decode cX5_put 60 = .ok (.iload_n 1, 1) := by decide +kernel
theorem dX5_put_61 : decode cX5_put 61 = .ok (.iastore, 1) := by decide +kernel
theorem dX5_put_62 : decode cX5_put 62 = .ok (.aload_n 0, 1) := by decide +kernel
theorem dX5_put_63 : decode cX5_put 63 = .ok (.getfield 15, 3) := by decide +kernel
theorem dX5_put_66 : decode cX5_put 66 = .ok (.aload_n 0, 1) := by decide +kernel
theorem dX5_put_67 : decode cX5_put 67 = .ok (.getfield 18, 3) := by decide +kernel
theorem dX5_put_70 : decode cX5_put 70 = .ok (.iload_n 2, 1) := by decide +kernel
theorem dX5_put_71 : decode cX5_put 71 = .ok (.iastore, 1) := by decide +kernel
theorem dX5_put_72 : decode cX5_put 72 = .ok (.aload_n 0, 1) := by decide +kernel
theorem dX5_put_73 : decode cX5_put 73 = .ok (.dup, 1) := by decide +kernel
theorem dX5_put_74 : decode cX5_put 74 = .ok (.getfield 18, 3) := by decide +kernel
theorem dX5_put_77 : decode cX5_put 77 = .ok (.iconst 1, 1) := by decide +kernel
theorem dX5_put_78 : decode cX5_put 78 = .ok (.iadd, 1) := by decide +kernel
theorem dX5_put_79 : decode cX5_put 79 = .ok (.putfield 18, 3) := by decide +kernel
theorem dX5_put_82 : decode cX5_put 82 = .ok (.iconst 1, 1) := by decide +kernel
theorem dX5_put_83 : decode cX5_put 83 = .ok (.ireturn, 1) := by decide +kernel
theorem dX5_worthOf_0 : decode cX5_worthOf 0 = .ok (.iconst 0, 1) := by decide +kernel
theorem dX5_worthOf_1 : decode cX5_worthOf 1 = .ok (.istore_n 2, 1) := by decide +kernel
theorem dX5_worthOf_2 : decode cX5_worthOf 2 = .ok (.iconst 0, 1) := by decide +kernel
theorem dX5_worthOf_3 : decode cX5_worthOf 3 = .ok (.istore_n 3, 1) := by decide +kernel
theorem dX5_worthOf_4 : decode cX5_worthOf 4 = .ok (.iconst 0, 1) := by decide +kernel
theorem dX5_worthOf_5 : decode cX5_worthOf 5 = .ok (.istore 4, 2) := by decide +kernel
theorem dX5_worthOf_7 : decode cX5_worthOf 7 = .ok (.iload 4, 2) := by decide +kernel
theorem dX5_worthOf_9 : decode cX5_worthOf 9 = .ok (.aload_n 0, 1) := by decide +kernel
theorem dX5_worthOf_10 : decode cX5_worthOf 10 = .ok (.getfield 18, 3) := by decide +kernel
theorem dX5_worthOf_13 : decode cX5_worthOf 13 = .ok (.if_icmp .ge 54, 3) := by decide +kernel
theorem dX5_worthOf_16 : decode cX5_worthOf 16 = .ok (.iload 4, 2) := by decide +kernel
theorem dX5_worthOf_18 : decode cX5_worthOf 18 = .ok (.bipush 10, 2) := by decide +kernel
theorem dX5_worthOf_20 : decode cX5_worthOf 20 = .ok (.if_icmp .ge 47, 3) := by decide +kernel
theorem dX5_worthOf_23 : decode cX5_worthOf 23 = .ok (.aload_n 0, 1) := by decide +kernel
theorem dX5_worthOf_24 : decode cX5_worthOf 24 = .ok (.getfield 9, 3) := by decide +kernel
theorem dX5_worthOf_27 : decode cX5_worthOf 27 = .ok (.iload 4, 2) := by decide +kernel
theorem dX5_worthOf_29 : decode cX5_worthOf 29 = .ok (.iaload, 1) := by decide +kernel
theorem dX5_worthOf_30 : decode cX5_worthOf 30 = .ok (.iload_n 1, 1) := by decide +kernel
theorem dX5_worthOf_31 : decode cX5_worthOf 31 = .ok (.if_icmp .gt 30, 3) := by decide +kernel
theorem dX5_worthOf_34 : decode cX5_worthOf 34 = .ok (.aload_n 0, 1) := by decide +kernel
theorem dX5_worthOf_35 : decode cX5_worthOf 35 = .ok (.getfield 9, 3) := by decide +kernel
theorem dX5_worthOf_38 : decode cX5_worthOf 38 = .ok (.iload 4, 2) := by decide +kernel
theorem dX5_worthOf_40 : decode cX5_worthOf 40 = .ok (.iaload, 1) := by decide +kernel
theorem dX5_worthOf_41 : decode cX5_worthOf 41 = .ok (.iload_n 2, 1) := by decide +kernel
theorem dX5_worthOf_42 : decode cX5_worthOf 42 = .ok (.if_icmp .le 19, 3) := by decide +kernel
theorem dX5_worthOf_45 : decode cX5_worthOf 45 = .ok (.aload_n 0, 1) := by decide +kernel
theorem dX5_worthOf_46 : decode cX5_worthOf 46 = .ok (.getfield 9, 3) := by decide +kernel
theorem dX5_worthOf_49 : decode cX5_worthOf 49 = .ok (.iload 4, 2) := by decide +kernel
theorem dX5_worthOf_51 : decode cX5_worthOf 51 = .ok (.iaload, 1) := by decide +kernel
theorem dX5_worthOf_52 : decode cX5_worthOf 52 = .ok (.istore_n 2, 1) := by decide +kernel
theorem dX5_worthOf_53 : decode cX5_worthOf 53 = .ok (.aload_n 0, 1) := by decide +kernel
theorem dX5_worthOf_54 : decode cX5_worthOf 54 = .ok (.getfield 15, 3) := by decide +kernel
theorem dX5_worthOf_57 : decode cX5_worthOf 57 = .ok (.iload 4, 2) := by decide +kernel
theorem dX5_worthOf_59 : decode cX5_worthOf 59 = .ok (.iaload, 1) := by decide +kernel
theorem dX5_worthOf_60 : decode cX5_worthOf 60 = .ok (.istore_n 3, 1) := by decide +kernel
theorem dX5_worthOf_61 : decode cX5_worthOf 61 = .ok (.iinc 4 1, 3) := by decide +kernel
theorem dX5_worthOf_64 : decode cX5_worthOf 64 = .ok (.goto (-57), 3) := by decide +kernel
theorem dX5_worthOf_67 : decode cX5_worthOf 67 = .ok (.iload_n 1, 1) := by decide +kernel
theorem dX5_worthOf_68 : decode cX5_worthOf 68 = .ok (.iload_n 3, 1) := by decide +kernel
theorem dX5_worthOf_69 : decode cX5_worthOf 69 = .ok (.imul, 1) := by decide +kernel
theorem dX5_worthOf_70 : decode cX5_worthOf 70 = .ok (.ireturn, 1) := by decide +kernel
def F_X0_init (a0 : Nat) (h0 : PM) : Option (Unit × PM) := nA h0 ((a0 + 1)) 20 24 fun h1 => pR h1 a0 1 0 ((a0 + 1)) fun h2 => nA h2 ((a0 + 2)) 20 4 fun h3 => sI h3 ((a0 + 2)) 0 6 fun h4 => sI h4 ((a0 + 2)) 1 6 fun h5 => sI h5 ((a0 + 2)) 2 6 fun h6 => sI h6 ((a0 + 2)) 3 6 fun h7 => pR h7 a0 1 1 ((a0 + 2)) fun h8 => nA h8 ((a0 + 3)) 20 4 fun h9 => pR h9 a0 1 2 ((a0 + 3)) fun h10 => nA h10 ((a0 + 4)) 20 6 fun h11 => pR h11 a0 1 3 ((a0 + 4)) fun h12 => nA h12 ((a0 + 5)) 20 6 fun h13 => pR h13 a0 1 4 ((a0 + 5)) fun h14 => nA h14 ((a0 + 6)) 20 7 fun h15 => pR h15 a0 1 5 ((a0 + 6)) fun h16 => pI h16 a0 1 6 0 fun h17 => pI h17 a0 1 7 0 fun h18 => some ((), h18)
set_option maxRecDepth 100000 in
set_option maxHeartbeats 4000000 in
theorem S_X0_init {a0 : Nat} {h0 : PM} (r : Unit) (h' : PM) (hF : F_X0_init a0 h0 = some (r, h')) : CN yX0_init cX0_init 1 none 6 51 1 [.ref a0] h0 none h' := by
  obtain ⟨X, eX⟩ : ∃ X, X = (r, h') := ⟨_, rfl⟩
  rw [← eX] at hF
  have e1 : r = X.1 := by rw [eX]
  have e2 : h' = X.2 := by rw [eX]
  rw [e2]
  clear eX e1 e2
  unfold F_X0_init at hF
  refine CN_of (by decide) (fun ρ => Nat.le_of_ble_eq_true rfl) rfl ?_
  intro p l e s m args below meth c D cy base ρ hT C V hr hnm
  refine r_aload_n C dX0_init_0 rfl 0 rfl ?_
  refine r_objInit C dX0_init_1 ml_X0_3 im_obj cd_obj (by decide) (Nat.le_of_ble_eq_true rfl) ?_
  refine r_aload_n C dX0_init_4 rfl 0 rfl ?_
  refine r_bipush (v := 24) C dX0_init_5 (by decide) ?_
  refine k_newi (N := 24) (a := (a0 + 1)) C dX0_init_7 ac_int (by decide) (by decide) (by decide) hF (fun h1 hF => ?_)
  refine k_pR C dX0_init_9 fd_X0_9 (fun _ => hnm) (by decide) hF (fun h2 hF => ?_)
  refine r_aload_n C dX0_init_12 rfl 0 rfl ?_
  refine r_iconst (v := 4) C dX0_init_13 (by decide) ?_
  refine k_newi (N := 4) (a := (a0 + 2)) C dX0_init_14 ac_int (by decide) (by decide) (by decide) hF (fun h3 hF => ?_)
  refine r_dup C dX0_init_16 rfl ?_
  refine r_iconst (v := 0) C dX0_init_17 (by decide) ?_
  refine r_bipush (v := 6) C dX0_init_18 (by decide) ?_
  refine k_sI C dX0_init_20 hF (fun h4 hF => ?_)
  refine r_dup C dX0_init_21 rfl ?_
  refine r_iconst (v := 1) C dX0_init_22 (by decide) ?_
  refine r_bipush (v := 6) C dX0_init_23 (by decide) ?_
  refine k_sI C dX0_init_25 hF (fun h5 hF => ?_)
  refine r_dup C dX0_init_26 rfl ?_
  refine r_iconst (v := 2) C dX0_init_27 (by decide) ?_
  refine r_bipush (v := 6) C dX0_init_28 (by decide) ?_
  refine k_sI C dX0_init_30 hF (fun h6 hF => ?_)
  refine r_dup C dX0_init_31 rfl ?_
  refine r_iconst (v := 3) C dX0_init_32 (by decide) ?_
  refine r_bipush (v := 6) C dX0_init_33 (by decide) ?_
  refine k_sI C dX0_init_35 hF (fun h7 hF => ?_)
  refine k_pR C dX0_init_36 fd_X0_15 (fun _ => hnm) (by decide) hF (fun h8 hF => ?_)
  refine r_aload_n C dX0_init_39 rfl 0 rfl ?_
  refine r_iconst (v := 4) C dX0_init_40 (by decide) ?_
  refine k_newi (N := 4) (a := (a0 + 3)) C dX0_init_41 ac_int (by decide) (by decide) (by decide) hF (fun h9 hF => ?_)
  refine k_pR C dX0_init_43 fd_X0_18 (fun _ => hnm) (by decide) hF (fun h10 hF => ?_)
  refine r_aload_n C dX0_init_46 rfl 0 rfl ?_
  refine r_bipush (v := 6) C dX0_init_47 (by decide) ?_
  refine k_newi (N := 6) (a := (a0 + 4)) C dX0_init_49 ac_int (by decide) (by decide) (by decide) hF (fun h11 hF => ?_)
  refine k_pR C dX0_init_51 fd_X0_21 (fun _ => hnm) (by decide) hF (fun h12 hF => ?_)
  refine r_aload_n C dX0_init_54 rfl 0 rfl ?_
  refine r_bipush (v := 6) C dX0_init_55 (by decide) ?_
  refine k_newi (N := 6) (a := (a0 + 5)) C dX0_init_57 ac_int (by decide) (by decide) (by decide) hF (fun h13 hF => ?_)
  refine k_pR C dX0_init_59 fd_X0_24 (fun _ => hnm) (by decide) hF (fun h14 hF => ?_)
  refine r_aload_n C dX0_init_62 rfl 0 rfl ?_
  refine r_bipush (v := 7) C dX0_init_63 (by decide) ?_
  refine k_newi (N := 7) (a := (a0 + 6)) C dX0_init_65 ac_int (by decide) (by decide) (by decide) hF (fun h15 hF => ?_)
  refine k_pR C dX0_init_67 fd_X0_27 (fun _ => hnm) (by decide) hF (fun h16 hF => ?_)
  refine r_aload_n C dX0_init_70 rfl 0 rfl ?_
  refine r_iconst (v := 0) C dX0_init_71 (by decide) ?_
  refine k_pI C dX0_init_72 fd_X0_30 (fun z => by cases z) (by decide) hF (fun h17 hF => ?_)
  refine r_aload_n C dX0_init_75 rfl 0 rfl ?_
  refine r_iconst (v := 0) C dX0_init_76 (by decide) ?_
  refine k_pI C dX0_init_77 fd_X0_34 (fun z => by cases z) (by decide) hF (fun h18 hF => ?_)
  exact k_vret C dX0_init_80 hr (by decide) (by decide) hF
def F_X0_seal (a0 : Nat) (a1 : Int32) (a2 : Int32) (a3 : Int32) (h0 : PM) : Option (Int32 × PM) := lt_ ((a2 * 4) + a1) fun x1 => gR h0 a0 1 0 fun x2 => aI h0 x2 x1 fun x3 => if x3 = 0 then (gR h0 a0 1 0 fun x4 => sI h0 x4 x1 a3 fun h5 => rz 1 h5) else (rz 0 h0)
set_option maxRecDepth 100000 in
set_option maxHeartbeats 4000000 in
theorem S_X0_seal {a0 : Nat} {a1 : Int32} {a2 : Int32} {a3 : Int32} {h0 : PM} (r : Int32) (h' : PM) (hF : F_X0_seal a0 a1 a2 a3 h0 = some (r, h')) : CN yX0_seal cX0_seal 5 (some .boolean) 0 0 0 [.ref a0, .int a1, .int a2, .int a3] h0 (some (.int r)) h' := by
  obtain ⟨X, eX⟩ : ∃ X, X = (r, h') := ⟨_, rfl⟩
  rw [← eX] at hF
  have e1 : r = X.1 := by rw [eX]
  have e2 : h' = X.2 := by rw [eX]
  rw [e1, e2]
  clear eX e1 e2
  unfold F_X0_seal at hF
  refine CN_of (by decide) (fun ρ => Nat.le_of_ble_eq_true rfl) rfl ?_
  intro p l e s m args below meth c D cy base ρ hT C V hr hnm
  refine r_iload_n C dX0_seal_0 rfl 2 rfl ?_
  refine r_iconst (v := 4) C dX0_seal_1 (by decide) ?_
  refine r_imul C dX0_seal_2 ?_
  refine r_iload_n C dX0_seal_3 rfl 1 rfl ?_
  refine r_iadd C dX0_seal_4 ?_
  refine k_lti hF (fun x1 hF => ?_)
  refine r_istore C dX0_seal_5 (by decide) rfl ?_
  refine r_aload_n C dX0_seal_7 rfl 1 rfl ?_
  refine k_gR C dX0_seal_8 fd_X0_9 (by decide) hF (fun x2 hF => ?_)
  refine r_iload C dX0_seal_11 0 rfl ?_
  refine k_aI C dX0_seal_13 hF (fun x3 hF => ?_)
  refine r_if_eq (tgt := 19) C dX0_seal_14 (by decide) hF (fun hF => ?_) (fun hF => ?_)
  · refine r_aload_n C dX0_seal_19 rfl 1 rfl ?_
    refine k_gR C dX0_seal_20 fd_X0_9 (by decide) hF (fun x4 hF => ?_)
    refine r_iload C dX0_seal_23 0 rfl ?_
    refine r_iload_n C dX0_seal_25 rfl 4 rfl ?_
    refine k_sI C dX0_seal_26 hF (fun h5 hF => ?_)
    refine r_iconst (v := 1) C dX0_seal_27 (by decide) ?_
    exact k_zret C dX0_seal_28 hr (by decide) (by decide) hF
  · refine r_iconst (v := 0) C dX0_seal_17 (by decide) ?_
    exact k_zret C dX0_seal_18 hr (by decide) (by decide) hF
def F_X0_give_L63 (rc : Nat → Int32 → Int32 → PM → Option (Unit × PM)) (c0 : Nat) (c1 : Int32) (c2 : Int32) (k144 : PM → Option (Unit × PM)) : Nat → Int32 → PM → Option (Unit × PM)
  | 0, _, _ => none
  | fu + 1, v13, h14 => if 4 ≤ v13 then (k144 h14) else (gR h14 c0 1 0 fun x15 => aI h14 x15 ((c1 * 4) + v13) fun x16 => jn (fun  (h17 : PM) => F_X0_give_L63 rc c0 c1 c2 k144 fu (v13 + 1) h17) fun k138 => if x16 ≤ 0 then (k138 h14) else (gR h14 c0 1 2 fun x19 => aI h14 x19 v13 fun x20 => gR h14 c0 1 1 fun x21 => aI h14 x21 v13 fun x22 => if x22 ≤ x20 then (k138 h14) else (gR h14 c0 1 2 fun x23 => aI h14 x23 v13 fun x24 => sI h14 x23 v13 (x24 + 1) fun h25 => gR h25 c0 1 3 fun x26 => sI h25 x26 c1 v13 fun h27 => tst h27 c0 1 (cl (rc c0 (c1 + 1) (c2 + x16) h27) fun r28 h29 => gR h29 c0 1 2 fun x31 => aI h29 x31 v13 fun x32 => sI h29 x31 v13 (x32 - 1) fun h33 => k138 h33))))
def F_X0_give : Nat → Nat → Int32 → Int32 → PM → Option (Unit × PM)
  | 0, _, _, _, _ => none
  | dd + 1, a0, a1, a2, h0 => gI h0 a0 1 6 fun x1 => jn (fun  (h2 : PM) => some ((), h2)) fun k29 => if x1 < a1 then (k29 h0) else (if 6 < a1 then (k29 h0) else (gR h0 a0 1 5 fun x3 => aI h0 x3 a1 fun x4 => gI h0 a0 1 7 fun x5 => if x5 < (a2 + x4) then (gI h0 a0 1 6 fun x6 => if ¬ a1 = x6 then (jn (fun  (h7 : PM) => gR h7 a0 1 3 fun x8 => sI h7 x8 a1 (-1) fun h9 => tst h9 a0 1 (cl ((F_X0_give dd) a0 (a1 + 1) a2 h9) fun r10 h11 => some ((), h11))) fun k144 => F_X0_give_L63 (F_X0_give dd) a0 a1 a2 k144 LF 0 h0) else (pI h0 a0 1 7 a2 fun h35 => gR h35 a0 1 3 fun x36 => gR h35 a0 1 4 fun x37 => gI h35 a0 1 6 fun x38 => cpI h35 x36 0 x37 0 x38 fun h39 => some ((), h39))) else (k29 h0)))
set_option maxRecDepth 100000 in
set_option maxHeartbeats 4000000 in
theorem S_X0_give (dd : Nat) : ∀ {a0 : Nat} {a1 : Int32} {a2 : Int32} {h0 : PM} (r : Unit) (h' : PM), F_X0_give dd a0 a1 a2 h0 = some (r, h') → CN yX0_give cX0_give 5 none 0 0 (dd + 2) [.ref a0, .int a1, .int a2] h0 none h' := by
  induction dd with
  | zero => intro a0 a1 a2 h0 r h' hF; rw [F_X0_give.eq_1] at hF; cases hF
  | succ dd rcS =>
  intro a0 a1 a2 h0 r h' hF
  obtain ⟨X, eX⟩ : ∃ X, X = (r, h') := ⟨_, rfl⟩
  rw [← eX] at hF
  have e1 : r = X.1 := by rw [eX]
  have e2 : h' = X.2 := by rw [eX]
  rw [e2]
  clear eX e1 e2
  rw [F_X0_give.eq_2] at hF
  refine CN_of (by decide) (fun ρ => Nat.le_of_ble_eq_true rfl) rfl ?_
  intro p l e s m args below meth c D cy base ρ hT C V hr hnm
  refine r_iload_n C dX0_give_0 rfl 1 rfl ?_
  refine r_aload_n C dX0_give_1 rfl 0 rfl ?_
  refine k_gI C dX0_give_2 fd_X0_30 (by decide) hF (fun x1 hF => ?_)
  obtain ⟨k29, ek29, hF⟩ := jn_some hF
  have Jk29 : ∀  (h2 : PM), k29 h2 = some X → WP p l e (rmN 0 0 (dd + 1 + 2)) s m args below meth c D cy base ρ h0 0 0 5 (MQ below (QR D cy base ρ h0 none X.2) args s 0 0 (fun q => base ≤ q)) 29 [] [] h2 := by
    intro h2 hF
    rw [ek29] at hF
    exact k_vret C dX0_give_29 hr (by decide) (by decide) hF
  refine r_icmp_gt (tgt := 29) C dX0_give_5 (by decide) hF (fun hF => ?_) (fun hF => ?_)
  · exact r_sub [] rfl (Jk29  _ hF)
  · refine r_iload_n C dX0_give_8 rfl 1 rfl ?_
    refine r_bipush (v := 6) C dX0_give_9 (by decide) ?_
    refine r_icmp_gt (tgt := 29) C dX0_give_11 (by decide) hF (fun hF => ?_) (fun hF => ?_)
    · exact r_sub [] rfl (Jk29  _ hF)
    · refine r_iload_n C dX0_give_14 rfl 2 rfl ?_
      refine r_aload_n C dX0_give_15 rfl 0 rfl ?_
      refine k_gR C dX0_give_16 fd_X0_27 (by decide) hF (fun x3 hF => ?_)
      refine r_iload_n C dX0_give_19 rfl 1 rfl ?_
      refine k_aI C dX0_give_20 hF (fun x4 hF => ?_)
      refine r_iadd C dX0_give_21 ?_
      refine r_aload_n C dX0_give_22 rfl 0 rfl ?_
      refine k_gI C dX0_give_23 fd_X0_34 (by decide) hF (fun x5 hF => ?_)
      refine r_icmp_gt (tgt := 30) C dX0_give_26 (by decide) hF (fun hF => ?_) (fun hF => ?_)
      · refine r_iload_n C dX0_give_30 rfl 1 rfl ?_
        refine r_aload_n C dX0_give_31 rfl 0 rfl ?_
        refine k_gI C dX0_give_32 fd_X0_30 (by decide) hF (fun x6 hF => ?_)
        refine r_icmp_ne (tgt := 61) C dX0_give_35 (by decide) hF (fun hF => ?_) (fun hF => ?_)
        · refine r_iconst (v := 0) C dX0_give_61 (by decide) ?_
          refine r_istore_n C dX0_give_62 rfl (by decide) rfl ?_
          obtain ⟨k144, ek144, hF⟩ := jn_some hF
          have Jk144 : ∀  (h7 : PM), k144 h7 = some X → WP p l e (rmN 0 0 (dd + 1 + 2)) s m args below meth c D cy base ρ h0 0 0 5 (MQ below (QR D cy base ρ h0 none X.2) args s 0 0 (fun q => base ≤ q)) 144 [(0, .ref a0), (1, .int a1), (2, .int a2)] [] h7 := by
            intro h7 hF
            rw [ek144] at hF
            refine r_aload_n C dX0_give_144 rfl 0 rfl ?_
            refine k_gR C dX0_give_145 fd_X0_21 (by decide) hF (fun x8 hF => ?_)
            refine r_iload_n C dX0_give_148 rfl 1 rfl ?_
            refine r_iconst (v := (-1)) C dX0_give_149 (by decide) ?_
            refine k_sI C dX0_give_150 hF (fun h9 hF => ?_)
            refine r_aload_n C dX0_give_151 rfl 0 rfl ?_
            refine r_iload_n C dX0_give_152 rfl 1 rfl ?_
            refine r_iconst (v := 1) C dX0_give_153 (by decide) ?_
            refine r_iadd C dX0_give_154 ?_
            refine r_iload_n C dX0_give_155 rfl 2 rfl ?_
            obtain ⟨ht, hF⟩ := tst_some hF
            obtain ⟨r10, h11, hc12, hF⟩ := cl_some hF
            refine r_callV (As := [.int (a1 + 1), .int a2]) C dX0_give_156 V hT cal_X0_give cls_1 ml_X0_41 im_X0_give se_X0_give ht (by omega) rfl rfl (Nat.le_of_ble_eq_true rfl) (by decide) (by decide) (rcS _ _ hc12) ?_
            exact k_vret C dX0_give_159 hr (by decide) (by decide) hF
          have L63 : ∀ (fu : Nat) (v13 : Int32) (h14 : PM), F_X0_give_L63 (F_X0_give dd) a0 a1 a2 k144 fu v13 h14 = some X → WP p l e (rmN 0 0 (dd + 1 + 2)) s m args below meth c D cy base ρ h0 0 0 5 (MQ below (QR D cy base ρ h0 none X.2) args s 0 0 (fun q => base ≤ q)) 63 [(0, .ref a0), (1, .int a1), (2, .int a2), (3, .int v13)] [] h14 := by
            intro fu
            induction fu with
            | zero => intro v13 h14 hF; rw [F_X0_give_L63.eq_1] at hF; cases hF
            | succ fu ih =>
              intro v13 h14 hF
              rw [F_X0_give_L63.eq_2] at hF
              refine r_iload_n C dX0_give_63 rfl 3 rfl ?_
              refine r_iconst (v := 4) C dX0_give_64 (by decide) ?_
              refine r_icmp_ge (tgt := 144) C dX0_give_65 (by decide) hF (fun hF => ?_) (fun hF => ?_)
              · exact r_sub [0, 1, 2] rfl (Jk144  _ hF)
              · refine r_aload_n C dX0_give_68 rfl 0 rfl ?_
                refine k_gR C dX0_give_69 fd_X0_9 (by decide) hF (fun x15 hF => ?_)
                refine r_iload_n C dX0_give_72 rfl 1 rfl ?_
                refine r_iconst (v := 4) C dX0_give_73 (by decide) ?_
                refine r_imul C dX0_give_74 ?_
                refine r_iload_n C dX0_give_75 rfl 3 rfl ?_
                refine r_iadd C dX0_give_76 ?_
                refine k_aI C dX0_give_77 hF (fun x16 hF => ?_)
                refine r_istore C dX0_give_78 (by decide) rfl ?_
                refine r_iload C dX0_give_80 0 rfl ?_
                obtain ⟨k138_17, ek138_17, hF⟩ := jn_some hF
                have Jk138_17 : ∀  (h18 : PM), k138_17 h18 = some X → WP p l e (rmN 0 0 (dd + 1 + 2)) s m args below meth c D cy base ρ h0 0 0 5 (MQ below (QR D cy base ρ h0 none X.2) args s 0 0 (fun q => base ≤ q)) 138 [(0, .ref a0), (1, .int a1), (2, .int a2), (3, .int v13)] [] h18 := by
                  intro h18 hF
                  rw [ek138_17] at hF
                  refine r_iinc (v := v13 + 1) C dX0_give_138 3 rfl (congrArg (fun z => v13 + z) (by decide)) (by decide) rfl ?_
                  refine r_goto (tgt := 63) C dX0_give_141 (by decide) ?_
                  exact r_sub [1, 2, 3, 0] rfl (ih _ _ hF)
                refine r_if_le (tgt := 138) C dX0_give_82 (by decide) hF (fun hF => ?_) (fun hF => ?_)
                · exact r_sub [1, 2, 3, 4] rfl (Jk138_17  _ hF)
                · refine r_aload_n C dX0_give_85 rfl 1 rfl ?_
                  refine k_gR C dX0_give_86 fd_X0_18 (by decide) hF (fun x20 hF => ?_)
                  refine r_iload_n C dX0_give_89 rfl 4 rfl ?_
                  refine k_aI C dX0_give_90 hF (fun x21 hF => ?_)
                  refine r_aload_n C dX0_give_91 rfl 1 rfl ?_
                  refine k_gR C dX0_give_92 fd_X0_15 (by decide) hF (fun x22 hF => ?_)
                  refine r_iload_n C dX0_give_95 rfl 4 rfl ?_
                  refine k_aI C dX0_give_96 hF (fun x23 hF => ?_)
                  refine r_icmp_ge (tgt := 138) C dX0_give_97 (by decide) hF (fun hF => ?_) (fun hF => ?_)
                  · exact r_sub [1, 2, 3, 4] rfl (Jk138_17  _ hF)
                  · refine r_aload_n C dX0_give_100 rfl 1 rfl ?_
                    refine k_gR C dX0_give_101 fd_X0_18 (by decide) hF (fun x24 hF => ?_)
                    refine r_iload_n C dX0_give_104 rfl 4 rfl ?_
                    refine r_dup2 C dX0_give_105 rfl rfl ?_
                    refine k_aI C dX0_give_106 hF (fun x25 hF => ?_)
                    refine r_iconst (v := 1) C dX0_give_107 (by decide) ?_
                    refine r_iadd C dX0_give_108 ?_
                    refine k_sI C dX0_give_109 hF (fun h26 hF => ?_)
                    refine r_aload_n C dX0_give_110 rfl 1 rfl ?_
                    refine k_gR C dX0_give_111 fd_X0_21 (by decide) hF (fun x27 hF => ?_)
                    refine r_iload_n C dX0_give_114 rfl 2 rfl ?_
                    refine r_iload_n C dX0_give_115 rfl 4 rfl ?_
                    refine k_sI C dX0_give_116 hF (fun h28 hF => ?_)
                    refine r_aload_n C dX0_give_117 rfl 1 rfl ?_
                    refine r_iload_n C dX0_give_118 rfl 2 rfl ?_
                    refine r_iconst (v := 1) C dX0_give_119 (by decide) ?_
                    refine r_iadd C dX0_give_120 ?_
                    refine r_iload_n C dX0_give_121 rfl 3 rfl ?_
                    refine r_iload C dX0_give_122 0 rfl ?_
                    refine r_iadd C dX0_give_124 ?_
                    obtain ⟨ht, hF⟩ := tst_some hF
                    obtain ⟨r29, h30, hc31, hF⟩ := cl_some hF
                    refine r_callV (As := [.int (a1 + 1), .int (a2 + x16)]) C dX0_give_125 V hT cal_X0_give cls_1 ml_X0_41 im_X0_give se_X0_give ht (by omega) rfl rfl (Nat.le_of_ble_eq_true rfl) (by decide) (by decide) (rcS _ _ hc31) ?_
                    refine r_aload_n C dX0_give_128 rfl 1 rfl ?_
                    refine k_gR C dX0_give_129 fd_X0_18 (by decide) hF (fun x32 hF => ?_)
                    refine r_iload_n C dX0_give_132 rfl 4 rfl ?_
                    refine r_dup2 C dX0_give_133 rfl rfl ?_
                    refine k_aI C dX0_give_134 hF (fun x33 hF => ?_)
                    refine r_iconst (v := 1) C dX0_give_135 (by decide) ?_
                    refine r_isub C dX0_give_136 ?_
                    refine k_sI C dX0_give_137 hF (fun h34 hF => ?_)
                    exact r_sub [1, 2, 3, 4] rfl (Jk138_17  _ hF)
          exact r_sub [1, 2, 3, 0] rfl (L63 _ _ _ hF)
        · refine r_aload_n C dX0_give_38 rfl 0 rfl ?_
          refine r_iload_n C dX0_give_39 rfl 2 rfl ?_
          refine k_pI C dX0_give_40 fd_X0_34 (fun z => by cases z) (by decide) hF (fun h35 hF => ?_)
          refine r_aload_n C dX0_give_43 rfl 0 rfl ?_
          refine k_gR C dX0_give_44 fd_X0_21 (by decide) hF (fun x36 hF => ?_)
          refine r_iconst (v := 0) C dX0_give_47 (by decide) ?_
          refine r_aload_n C dX0_give_48 rfl 0 rfl ?_
          refine k_gR C dX0_give_49 fd_X0_24 (by decide) hF (fun x37 hF => ?_)
          refine r_iconst (v := 0) C dX0_give_52 (by decide) ?_
          refine r_aload_n C dX0_give_53 rfl 0 rfl ?_
          refine k_gI C dX0_give_54 fd_X0_30 (by decide) hF (fun x38 hF => ?_)
          refine k_cpI C dX0_give_57 ay_X0_51 ay_n ay_s ay_i (by omega) (Nat.le_of_ble_eq_true rfl) hF (fun h39 hF => ?_)
          exact k_vret C dX0_give_60 hr (by decide) (by decide) hF
      · exact r_sub [] rfl (Jk29  _ hF)
def F_X0_greatestBid_L4 (c0 : Nat) (c1 : Int32) (k30 : Int32 → PM → Option (Int32 × PM)) : Nat → Int32 → Int32 → PM → Option (Int32 × PM)
  | 0, _, _, _ => none
  | fu + 1, v3, v4, h5 => if 4 ≤ v4 then (k30 v3 h5) else (gR h5 c0 1 0 fun x6 => aI h5 x6 ((c1 * 4) + v4) fun x7 => lt_ (mx v3 x7) fun x8 => F_X0_greatestBid_L4 c0 c1 k30 fu x8 (v4 + 1) h5)
def F_X0_greatestBid (a0 : Nat) (a1 : Int32) (h0 : PM) : Option (Int32 × PM) := jn (fun (v1 : Int32) (h2 : PM) => some (v1, h2)) fun k30 => F_X0_greatestBid_L4 a0 a1 k30 LF 0 0 h0
set_option maxRecDepth 100000 in
set_option maxHeartbeats 4000000 in
theorem S_X0_greatestBid {a0 : Nat} {a1 : Int32} {h0 : PM} (r : Int32) (h' : PM) (hF : F_X0_greatestBid a0 a1 h0 = some (r, h')) : CN yX0_greatestBid cX0_greatestBid 4 (some .int) 0 0 1 [.ref a0, .int a1] h0 (some (.int r)) h' := by
  obtain ⟨X, eX⟩ : ∃ X, X = (r, h') := ⟨_, rfl⟩
  rw [← eX] at hF
  have e1 : r = X.1 := by rw [eX]
  have e2 : h' = X.2 := by rw [eX]
  rw [e1, e2]
  clear eX e1 e2
  unfold F_X0_greatestBid at hF
  refine CN_of (by decide) (fun ρ => Nat.le_of_ble_eq_true rfl) rfl ?_
  intro p l e s m args below meth c D cy base ρ hT C V hr hnm
  refine r_iconst (v := 0) C dX0_greatestBid_0 (by decide) ?_
  refine r_istore_n C dX0_greatestBid_1 rfl (by decide) rfl ?_
  refine r_iconst (v := 0) C dX0_greatestBid_2 (by decide) ?_
  refine r_istore_n C dX0_greatestBid_3 rfl (by decide) rfl ?_
  obtain ⟨k30, ek30, hF⟩ := jn_some hF
  have Jk30 : ∀ (v1 : Int32) (h2 : PM), k30 v1 h2 = some X → WP p l e (rmN 0 0 1) s m args below meth c D cy base ρ h0 0 0 4 (MQ below (QR D cy base ρ h0 (some (.int X.1)) X.2) args s 0 0 (fun q => base ≤ q)) 30 [(2, .int v1)] [] h2 := by
    intro v1 h2 hF
    rw [ek30] at hF
    refine r_iload_n C dX0_greatestBid_30 rfl 0 rfl ?_
    exact k_iret C dX0_greatestBid_31 hr (by decide) (by decide) hF
  have L4 : ∀ (fu : Nat) (v3 : Int32) (v4 : Int32) (h5 : PM), F_X0_greatestBid_L4 a0 a1 k30 fu v3 v4 h5 = some X → WP p l e (rmN 0 0 1) s m args below meth c D cy base ρ h0 0 0 4 (MQ below (QR D cy base ρ h0 (some (.int X.1)) X.2) args s 0 0 (fun q => base ≤ q)) 4 [(0, .ref a0), (1, .int a1), (2, .int v3), (3, .int v4)] [] h5 := by
    intro fu
    induction fu with
    | zero => intro v3 v4 h5 hF; rw [F_X0_greatestBid_L4.eq_1] at hF; cases hF
    | succ fu ih =>
      intro v3 v4 h5 hF
      rw [F_X0_greatestBid_L4.eq_2] at hF
      refine r_iload_n C dX0_greatestBid_4 rfl 3 rfl ?_
      refine r_iconst (v := 4) C dX0_greatestBid_5 (by decide) ?_
      refine r_icmp_ge (tgt := 30) C dX0_greatestBid_6 (by decide) hF (fun hF => ?_) (fun hF => ?_)
      · exact r_sub [2] rfl (Jk30 _ _ hF)
      · refine r_iload_n C dX0_greatestBid_9 rfl 2 rfl ?_
        refine r_aload_n C dX0_greatestBid_10 rfl 0 rfl ?_
        refine k_gR C dX0_greatestBid_11 fd_X0_9 (by decide) hF (fun x6 hF => ?_)
        refine r_iload_n C dX0_greatestBid_14 rfl 1 rfl ?_
        refine r_iconst (v := 4) C dX0_greatestBid_15 (by decide) ?_
        refine r_imul C dX0_greatestBid_16 ?_
        refine r_iload_n C dX0_greatestBid_17 rfl 3 rfl ?_
        refine r_iadd C dX0_greatestBid_18 ?_
        refine k_aI C dX0_greatestBid_19 hF (fun x7 hF => ?_)
        refine r_mmax C dX0_greatestBid_20 mm_X0_45 mm_smax mm_i mm_cmax (by decide) (Nat.le_of_ble_eq_true rfl) (by decide) (by decide) ?_
        refine k_lti hF (fun x8 hF => ?_)
        refine r_istore_n C dX0_greatestBid_23 rfl (by decide) rfl ?_
        refine r_iinc (v := v4 + 1) C dX0_greatestBid_24 3 rfl (congrArg (fun z => v4 + z) (by decide)) (by decide) rfl ?_
        refine r_goto (tgt := 4) C dX0_greatestBid_27 (by decide) ?_
        exact r_sub [2, 3, 1, 0] rfl (ih _ _ _ hF)
  exact r_sub [2, 3, 1, 0] rfl (L4 _ _ _ _ hF)
def F_X0_giveAll_L22 (c0 : Nat) (k52 : PM → Option (Int32 × PM)) : Nat → Int32 → PM → Option (Int32 × PM)
  | 0, _, _ => none
  | fu + 1, v12, h13 => if v12 < 0 then (k52 h13) else (gR h13 c0 1 5 fun x14 => gR h13 c0 1 5 fun x15 => aI h13 x15 (v12 + 1) fun x16 => tst h13 c0 1 (cl (F_X0_greatestBid c0 v12 h13) fun r17 h18 => sI h18 x14 v12 (x16 + r17) fun h20 => F_X0_giveAll_L22 c0 k52 fu (v12 + (-1)) h20))
def F_X0_giveAll (a0 : Nat) (h0 : PM) : Option (Int32 × PM) := pI h0 a0 1 7 (-1) fun h1 => gR h1 a0 1 5 fun x2 => gI h1 a0 1 6 fun x3 => sI h1 x2 x3 0 fun h4 => gI h4 a0 1 6 fun x5 => lt_ (x5 - 1) fun x6 => jn (fun  (h7 : PM) => tst h7 a0 1 (cl (F_X0_give 8 a0 0 0 h7) fun r8 h9 => gI h9 a0 1 7 fun x11 => some (x11, h9))) fun k52 => F_X0_giveAll_L22 a0 k52 LF x6 h4
set_option maxRecDepth 100000 in
set_option maxHeartbeats 4000000 in
theorem S_X0_giveAll {a0 : Nat} {h0 : PM} (r : Int32) (h' : PM) (hF : F_X0_giveAll a0 h0 = some (r, h')) : CN yX0_giveAll cX0_giveAll 2 (some .int) 0 0 11 [.ref a0] h0 (some (.int r)) h' := by
  obtain ⟨X, eX⟩ : ∃ X, X = (r, h') := ⟨_, rfl⟩
  rw [← eX] at hF
  have e1 : r = X.1 := by rw [eX]
  have e2 : h' = X.2 := by rw [eX]
  rw [e1, e2]
  clear eX e1 e2
  unfold F_X0_giveAll at hF
  refine CN_of (by decide) (fun ρ => Nat.le_of_ble_eq_true rfl) rfl ?_
  intro p l e s m args below meth c D cy base ρ hT C V hr hnm
  refine r_aload_n C dX0_giveAll_0 rfl 0 rfl ?_
  refine r_iconst (v := (-1)) C dX0_giveAll_1 (by decide) ?_
  refine k_pI C dX0_giveAll_2 fd_X0_34 (fun z => by cases z) (by decide) hF (fun h1 hF => ?_)
  refine r_aload_n C dX0_giveAll_5 rfl 0 rfl ?_
  refine k_gR C dX0_giveAll_6 fd_X0_27 (by decide) hF (fun x2 hF => ?_)
  refine r_aload_n C dX0_giveAll_9 rfl 0 rfl ?_
  refine k_gI C dX0_giveAll_10 fd_X0_30 (by decide) hF (fun x3 hF => ?_)
  refine r_iconst (v := 0) C dX0_giveAll_13 (by decide) ?_
  refine k_sI C dX0_giveAll_14 hF (fun h4 hF => ?_)
  refine r_aload_n C dX0_giveAll_15 rfl 0 rfl ?_
  refine k_gI C dX0_giveAll_16 fd_X0_30 (by decide) hF (fun x5 hF => ?_)
  refine r_iconst (v := 1) C dX0_giveAll_19 (by decide) ?_
  refine r_isub C dX0_giveAll_20 ?_
  refine k_lti hF (fun x6 hF => ?_)
  refine r_istore_n C dX0_giveAll_21 rfl (by decide) rfl ?_
  obtain ⟨k52, ek52, hF⟩ := jn_some hF
  have Jk52 : ∀  (h7 : PM), k52 h7 = some X → WP p l e (rmN 0 0 11) s m args below meth c D cy base ρ h0 0 0 2 (MQ below (QR D cy base ρ h0 (some (.int X.1)) X.2) args s 0 0 (fun q => base ≤ q)) 52 [(0, .ref a0)] [] h7 := by
    intro h7 hF
    rw [ek52] at hF
    refine r_aload_n C dX0_giveAll_52 rfl 0 rfl ?_
    refine r_iconst (v := 0) C dX0_giveAll_53 (by decide) ?_
    refine r_iconst (v := 0) C dX0_giveAll_54 (by decide) ?_
    obtain ⟨ht, hF⟩ := tst_some hF
    obtain ⟨r8, h9, hc10, hF⟩ := cl_some hF
    refine r_callV (As := [.int 0, .int 0]) C dX0_giveAll_55 V hT cal_X0_give cls_1 ml_X0_41 im_X0_give se_X0_give ht (by decide) rfl rfl (Nat.le_of_ble_eq_true rfl) (by decide) (by decide) (S_X0_give 8 _ _ hc10) ?_
    refine r_aload_n C dX0_giveAll_58 rfl 0 rfl ?_
    refine k_gI C dX0_giveAll_59 fd_X0_34 (by decide) hF (fun x11 hF => ?_)
    exact k_iret C dX0_giveAll_62 hr (by decide) (by decide) hF
  have L22 : ∀ (fu : Nat) (v12 : Int32) (h13 : PM), F_X0_giveAll_L22 a0 k52 fu v12 h13 = some X → WP p l e (rmN 0 0 11) s m args below meth c D cy base ρ h0 0 0 2 (MQ below (QR D cy base ρ h0 (some (.int X.1)) X.2) args s 0 0 (fun q => base ≤ q)) 22 [(0, .ref a0), (1, .int v12)] [] h13 := by
    intro fu
    induction fu with
    | zero => intro v12 h13 hF; rw [F_X0_giveAll_L22.eq_1] at hF; cases hF
    | succ fu ih =>
      intro v12 h13 hF
      rw [F_X0_giveAll_L22.eq_2] at hF
      refine r_iload_n C dX0_giveAll_22 rfl 1 rfl ?_
      refine r_if_lt (tgt := 52) C dX0_giveAll_23 (by decide) hF (fun hF => ?_) (fun hF => ?_)
      · exact r_sub [0] rfl (Jk52  _ hF)
      · refine r_aload_n C dX0_giveAll_26 rfl 0 rfl ?_
        refine k_gR C dX0_giveAll_27 fd_X0_27 (by decide) hF (fun x14 hF => ?_)
        refine r_iload_n C dX0_giveAll_30 rfl 1 rfl ?_
        refine r_aload_n C dX0_giveAll_31 rfl 0 rfl ?_
        refine k_gR C dX0_giveAll_32 fd_X0_27 (by decide) hF (fun x15 hF => ?_)
        refine r_iload_n C dX0_giveAll_35 rfl 1 rfl ?_
        refine r_iconst (v := 1) C dX0_giveAll_36 (by decide) ?_
        refine r_iadd C dX0_giveAll_37 ?_
        refine k_aI C dX0_giveAll_38 hF (fun x16 hF => ?_)
        refine r_aload_n C dX0_giveAll_39 rfl 0 rfl ?_
        refine r_iload_n C dX0_giveAll_40 rfl 1 rfl ?_
        obtain ⟨ht, hF⟩ := tst_some hF
        obtain ⟨r17, h18, hc19, hF⟩ := cl_some hF
        refine r_callV (As := [.int v12]) C dX0_giveAll_41 V hT cal_X0_greatestBid cls_1 ml_X0_37 im_X0_greatestBid se_X0_greatestBid ht (by decide) rfl rfl (Nat.le_of_ble_eq_true rfl) (by decide) (by decide) (S_X0_greatestBid _ _ hc19) ?_
        refine r_iadd C dX0_giveAll_44 ?_
        refine k_sI C dX0_giveAll_45 hF (fun h20 hF => ?_)
        refine r_iinc (v := v12 + (-1)) C dX0_giveAll_46 1 rfl (congrArg (fun z => v12 + z) (by decide)) (by decide) rfl ?_
        refine r_goto (tgt := 22) C dX0_giveAll_49 (by decide) ?_
        exact r_sub [1, 0] rfl (ih _ _ hF)
  exact r_sub [1, 0] rfl (L22 _ _ _ hF)
def F_X0_winnerOf (a0 : Nat) (a1 : Int32) (h0 : PM) : Option (Int32 × PM) := jn (fun (s1 : Int32) (h2 : PM) => some (s1, h2)) fun k22 => jn (fun  (h3 : PM) => k22 (-1) h3) fun k21 => if a1 < 0 then (k21 h0) else (gI h0 a0 1 6 fun x4 => if x4 ≤ a1 then (k21 h0) else (gR h0 a0 1 4 fun x5 => aI h0 x5 a1 fun x6 => k22 x6 h0))
set_option maxRecDepth 100000 in
set_option maxHeartbeats 4000000 in
theorem S_X0_winnerOf {a0 : Nat} {a1 : Int32} {h0 : PM} (r : Int32) (h' : PM) (hF : F_X0_winnerOf a0 a1 h0 = some (r, h')) : CN yX0_winnerOf cX0_winnerOf 2 (some .int) 0 0 0 [.ref a0, .int a1] h0 (some (.int r)) h' := by
  obtain ⟨X, eX⟩ : ∃ X, X = (r, h') := ⟨_, rfl⟩
  rw [← eX] at hF
  have e1 : r = X.1 := by rw [eX]
  have e2 : h' = X.2 := by rw [eX]
  rw [e1, e2]
  clear eX e1 e2
  unfold F_X0_winnerOf at hF
  refine CN_of (by decide) (fun ρ => Nat.le_of_ble_eq_true rfl) rfl ?_
  intro p l e s m args below meth c D cy base ρ hT C V hr hnm
  refine r_iload_n C dX0_winnerOf_0 rfl 1 rfl ?_
  obtain ⟨k22, ek22, hF⟩ := jn_some hF
  have Jk22 : ∀ (s1 : Int32) (h2 : PM), k22 s1 h2 = some X → WP p l e (rmN 0 0 0) s m args below meth c D cy base ρ h0 0 0 2 (MQ below (QR D cy base ρ h0 (some (.int X.1)) X.2) args s 0 0 (fun q => base ≤ q)) 22 [] [.int s1] h2 := by
    intro s1 h2 hF
    rw [ek22] at hF
    exact k_iret C dX0_winnerOf_22 hr (by decide) (by decide) hF
  obtain ⟨k21, ek21, hF⟩ := jn_some hF
  have Jk21 : ∀  (h3 : PM), k21 h3 = some X → WP p l e (rmN 0 0 0) s m args below meth c D cy base ρ h0 0 0 2 (MQ below (QR D cy base ρ h0 (some (.int X.1)) X.2) args s 0 0 (fun q => base ≤ q)) 21 [] [] h3 := by
    intro h3 hF
    rw [ek21] at hF
    refine r_iconst (v := (-1)) C dX0_winnerOf_21 (by decide) ?_
    exact Jk22 _ _ hF
  refine r_if_lt (tgt := 21) C dX0_winnerOf_1 (by decide) hF (fun hF => ?_) (fun hF => ?_)
  · exact r_sub [] rfl (Jk21  _ hF)
  · refine r_iload_n C dX0_winnerOf_4 rfl 1 rfl ?_
    refine r_aload_n C dX0_winnerOf_5 rfl 0 rfl ?_
    refine k_gI C dX0_winnerOf_6 fd_X0_30 (by decide) hF (fun x4 hF => ?_)
    refine r_icmp_ge (tgt := 21) C dX0_winnerOf_9 (by decide) hF (fun hF => ?_) (fun hF => ?_)
    · exact r_sub [] rfl (Jk21  _ hF)
    · refine r_aload_n C dX0_winnerOf_12 rfl 0 rfl ?_
      refine k_gR C dX0_winnerOf_13 fd_X0_24 (by decide) hF (fun x5 hF => ?_)
      refine r_iload_n C dX0_winnerOf_16 rfl 1 rfl ?_
      refine k_aI C dX0_winnerOf_17 hF (fun x6 hF => ?_)
      refine r_goto (tgt := 22) C dX0_winnerOf_18 (by decide) ?_
      exact r_sub [] rfl (Jk22 _ _ hF)
def F_X0_clear_L7 (c0 : Nat) (k26 : PM → Option (Unit × PM)) : Nat → Int32 → PM → Option (Unit × PM)
  | 0, _, _ => none
  | fu + 1, v3, h4 => if 24 ≤ v3 then (k26 h4) else (gR h4 c0 1 0 fun x5 => sI h4 x5 v3 0 fun h6 => F_X0_clear_L7 c0 k26 fu (v3 + 1) h6)
def F_X0_clear (a0 : Nat) (h0 : PM) : Option (Unit × PM) := pI h0 a0 1 6 0 fun h1 => jn (fun  (h2 : PM) => some ((), h2)) fun k26 => F_X0_clear_L7 a0 k26 LF 0 h1
set_option maxRecDepth 100000 in
set_option maxHeartbeats 4000000 in
theorem S_X0_clear {a0 : Nat} {h0 : PM} (r : Unit) (h' : PM) (hF : F_X0_clear a0 h0 = some (r, h')) : CN yX0_clear cX0_clear 2 none 0 0 0 [.ref a0] h0 none h' := by
  obtain ⟨X, eX⟩ : ∃ X, X = (r, h') := ⟨_, rfl⟩
  rw [← eX] at hF
  have e1 : r = X.1 := by rw [eX]
  have e2 : h' = X.2 := by rw [eX]
  rw [e2]
  clear eX e1 e2
  unfold F_X0_clear at hF
  refine CN_of (by decide) (fun ρ => Nat.le_of_ble_eq_true rfl) rfl ?_
  intro p l e s m args below meth c D cy base ρ hT C V hr hnm
  refine r_aload_n C dX0_clear_0 rfl 0 rfl ?_
  refine r_iconst (v := 0) C dX0_clear_1 (by decide) ?_
  refine k_pI C dX0_clear_2 fd_X0_30 (fun z => by cases z) (by decide) hF (fun h1 hF => ?_)
  refine r_iconst (v := 0) C dX0_clear_5 (by decide) ?_
  refine r_istore_n C dX0_clear_6 rfl (by decide) rfl ?_
  obtain ⟨k26, ek26, hF⟩ := jn_some hF
  have Jk26 : ∀  (h2 : PM), k26 h2 = some X → WP p l e (rmN 0 0 0) s m args below meth c D cy base ρ h0 0 0 2 (MQ below (QR D cy base ρ h0 none X.2) args s 0 0 (fun q => base ≤ q)) 26 [] [] h2 := by
    intro h2 hF
    rw [ek26] at hF
    exact k_vret C dX0_clear_26 hr (by decide) (by decide) hF
  have L7 : ∀ (fu : Nat) (v3 : Int32) (h4 : PM), F_X0_clear_L7 a0 k26 fu v3 h4 = some X → WP p l e (rmN 0 0 0) s m args below meth c D cy base ρ h0 0 0 2 (MQ below (QR D cy base ρ h0 none X.2) args s 0 0 (fun q => base ≤ q)) 7 [(0, .ref a0), (1, .int v3)] [] h4 := by
    intro fu
    induction fu with
    | zero => intro v3 h4 hF; rw [F_X0_clear_L7.eq_1] at hF; cases hF
    | succ fu ih =>
      intro v3 h4 hF
      rw [F_X0_clear_L7.eq_2] at hF
      refine r_iload_n C dX0_clear_7 rfl 1 rfl ?_
      refine r_bipush (v := 24) C dX0_clear_8 (by decide) ?_
      refine r_icmp_ge (tgt := 26) C dX0_clear_10 (by decide) hF (fun hF => ?_) (fun hF => ?_)
      · exact r_sub [] rfl (Jk26  _ hF)
      · refine r_aload_n C dX0_clear_13 rfl 0 rfl ?_
        refine k_gR C dX0_clear_14 fd_X0_9 (by decide) hF (fun x5 hF => ?_)
        refine r_iload_n C dX0_clear_17 rfl 1 rfl ?_
        refine r_iconst (v := 0) C dX0_clear_18 (by decide) ?_
        refine k_sI C dX0_clear_19 hF (fun h6 hF => ?_)
        refine r_iinc (v := v3 + 1) C dX0_clear_20 1 rfl (congrArg (fun z => v3 + z) (by decide)) (by decide) rfl ?_
        refine r_goto (tgt := 7) C dX0_clear_23 (by decide) ?_
        exact r_sub [1, 0] rfl (ih _ _ hF)
  exact r_sub [1, 0] rfl (L7 _ _ _ hF)
def F_X1_init (a0 : Nat) (h0 : PM) : Option (Unit × PM) := pI h0 a0 2 0 0 fun h1 => pI h1 a0 2 1 (-1) fun h2 => pI h2 a0 2 2 0 fun h3 => pI h3 a0 2 3 0 fun h4 => pI h4 a0 2 4 0 fun h5 => pI h5 a0 2 5 0 fun h6 => pI h6 a0 2 6 0 fun h7 => pI h7 a0 2 7 0 fun h8 => some ((), h8)
set_option maxRecDepth 100000 in
set_option maxHeartbeats 4000000 in
theorem S_X1_init {a0 : Nat} {h0 : PM} (r : Unit) (h' : PM) (hF : F_X1_init a0 h0 = some (r, h')) : CN yX1_init cX1_init 1 none 0 0 1 [.ref a0] h0 none h' := by
  obtain ⟨X, eX⟩ : ∃ X, X = (r, h') := ⟨_, rfl⟩
  rw [← eX] at hF
  have e1 : r = X.1 := by rw [eX]
  have e2 : h' = X.2 := by rw [eX]
  rw [e2]
  clear eX e1 e2
  unfold F_X1_init at hF
  refine CN_of (by decide) (fun ρ => Nat.le_of_ble_eq_true rfl) rfl ?_
  intro p l e s m args below meth c D cy base ρ hT C V hr hnm
  refine r_aload_n C dX1_init_0 rfl 0 rfl ?_
  refine r_objInit C dX1_init_1 ml_X1_3 im_obj cd_obj (by decide) (Nat.le_of_ble_eq_true rfl) ?_
  refine r_aload_n C dX1_init_4 rfl 0 rfl ?_
  refine r_iconst (v := 0) C dX1_init_5 (by decide) ?_
  refine k_pI C dX1_init_6 fd_X1_9 (fun z => by cases z) (by decide) hF (fun h1 hF => ?_)
  refine r_aload_n C dX1_init_9 rfl 0 rfl ?_
  refine r_iconst (v := (-1)) C dX1_init_10 (by decide) ?_
  refine k_pI C dX1_init_11 fd_X1_15 (fun z => by cases z) (by decide) hF (fun h2 hF => ?_)
  refine r_aload_n C dX1_init_14 rfl 0 rfl ?_
  refine r_iconst (v := 0) C dX1_init_15 (by decide) ?_
  refine k_pI C dX1_init_16 fd_X1_18 (fun z => by cases z) (by decide) hF (fun h3 hF => ?_)
  refine r_aload_n C dX1_init_19 rfl 0 rfl ?_
  refine r_iconst (v := 0) C dX1_init_20 (by decide) ?_
  refine k_pI C dX1_init_21 fd_X1_21 (fun z => by cases z) (by decide) hF (fun h4 hF => ?_)
  refine r_aload_n C dX1_init_24 rfl 0 rfl ?_
  refine r_iconst (v := 0) C dX1_init_25 (by decide) ?_
  refine k_pI C dX1_init_26 fd_X1_24 (fun z => by cases z) (by decide) hF (fun h5 hF => ?_)
  refine r_aload_n C dX1_init_29 rfl 0 rfl ?_
  refine r_iconst (v := 0) C dX1_init_30 (by decide) ?_
  refine k_pI C dX1_init_31 fd_X1_27 (fun z => by cases z) (by decide) hF (fun h6 hF => ?_)
  refine r_aload_n C dX1_init_34 rfl 0 rfl ?_
  refine r_iconst (v := 0) C dX1_init_35 (by decide) ?_
  refine k_pI C dX1_init_36 fd_X1_30 (fun z => by cases z) (by decide) hF (fun h7 hF => ?_)
  refine r_aload_n C dX1_init_39 rfl 0 rfl ?_
  refine r_iconst (v := 0) C dX1_init_40 (by decide) ?_
  refine k_pI C dX1_init_41 fd_X1_33 (fun z => by cases z) (by decide) hF (fun h8 hF => ?_)
  exact k_vret C dX1_init_44 hr (by decide) (by decide) hF
def F_X1_take (a0 : Nat) (a1 : Nat) (h0 : PM) : Option (Unit × PM) := gI h0 a1 2 0 fun x1 => pI h0 a0 2 0 x1 fun h2 => gI h2 a1 2 1 fun x3 => pI h2 a0 2 1 x3 fun h4 => gI h4 a1 2 2 fun x5 => pI h4 a0 2 2 x5 fun h6 => gI h6 a1 2 3 fun x7 => pI h6 a0 2 3 x7 fun h8 => gI h8 a1 2 4 fun x9 => pI h8 a0 2 4 x9 fun h10 => gI h10 a1 2 5 fun x11 => pI h10 a0 2 5 x11 fun h12 => gI h12 a1 2 6 fun x13 => pI h12 a0 2 6 x13 fun h14 => gI h14 a1 2 7 fun x15 => pI h14 a0 2 7 x15 fun h16 => some ((), h16)
set_option maxRecDepth 100000 in
set_option maxHeartbeats 4000000 in
theorem S_X1_take {a0 : Nat} {a1 : Nat} {h0 : PM} (r : Unit) (h' : PM) (hF : F_X1_take a0 a1 h0 = some (r, h')) : CN yX1_take cX1_take 2 none 0 0 0 [.ref a0, .ref a1] h0 none h' := by
  obtain ⟨X, eX⟩ : ∃ X, X = (r, h') := ⟨_, rfl⟩
  rw [← eX] at hF
  have e1 : r = X.1 := by rw [eX]
  have e2 : h' = X.2 := by rw [eX]
  rw [e2]
  clear eX e1 e2
  unfold F_X1_take at hF
  refine CN_of (by decide) (fun ρ => Nat.le_of_ble_eq_true rfl) rfl ?_
  intro p l e s m args below meth c D cy base ρ hT C V hr hnm
  refine r_aload_n C dX1_take_0 rfl 0 rfl ?_
  refine r_aload_n C dX1_take_1 rfl 1 rfl ?_
  refine k_gI C dX1_take_2 fd_X1_9 (by decide) hF (fun x1 hF => ?_)
  refine k_pI C dX1_take_5 fd_X1_9 (fun z => by cases z) (by decide) hF (fun h2 hF => ?_)
  refine r_aload_n C dX1_take_8 rfl 0 rfl ?_
  refine r_aload_n C dX1_take_9 rfl 1 rfl ?_
  refine k_gI C dX1_take_10 fd_X1_15 (by decide) hF (fun x3 hF => ?_)
  refine k_pI C dX1_take_13 fd_X1_15 (fun z => by cases z) (by decide) hF (fun h4 hF => ?_)
  refine r_aload_n C dX1_take_16 rfl 0 rfl ?_
  refine r_aload_n C dX1_take_17 rfl 1 rfl ?_
  refine k_gI C dX1_take_18 fd_X1_18 (by decide) hF (fun x5 hF => ?_)
  refine k_pI C dX1_take_21 fd_X1_18 (fun z => by cases z) (by decide) hF (fun h6 hF => ?_)
  refine r_aload_n C dX1_take_24 rfl 0 rfl ?_
  refine r_aload_n C dX1_take_25 rfl 1 rfl ?_
  refine k_gI C dX1_take_26 fd_X1_21 (by decide) hF (fun x7 hF => ?_)
  refine k_pI C dX1_take_29 fd_X1_21 (fun z => by cases z) (by decide) hF (fun h8 hF => ?_)
  refine r_aload_n C dX1_take_32 rfl 0 rfl ?_
  refine r_aload_n C dX1_take_33 rfl 1 rfl ?_
  refine k_gI C dX1_take_34 fd_X1_24 (by decide) hF (fun x9 hF => ?_)
  refine k_pI C dX1_take_37 fd_X1_24 (fun z => by cases z) (by decide) hF (fun h10 hF => ?_)
  refine r_aload_n C dX1_take_40 rfl 0 rfl ?_
  refine r_aload_n C dX1_take_41 rfl 1 rfl ?_
  refine k_gI C dX1_take_42 fd_X1_27 (by decide) hF (fun x11 hF => ?_)
  refine k_pI C dX1_take_45 fd_X1_27 (fun z => by cases z) (by decide) hF (fun h12 hF => ?_)
  refine r_aload_n C dX1_take_48 rfl 0 rfl ?_
  refine r_aload_n C dX1_take_49 rfl 1 rfl ?_
  refine k_gI C dX1_take_50 fd_X1_30 (by decide) hF (fun x13 hF => ?_)
  refine k_pI C dX1_take_53 fd_X1_30 (fun z => by cases z) (by decide) hF (fun h14 hF => ?_)
  refine r_aload_n C dX1_take_56 rfl 0 rfl ?_
  refine r_aload_n C dX1_take_57 rfl 1 rfl ?_
  refine k_gI C dX1_take_58 fd_X1_33 (by decide) hF (fun x15 hF => ?_)
  refine k_pI C dX1_take_61 fd_X1_33 (fun z => by cases z) (by decide) hF (fun h16 hF => ?_)
  exact k_vret C dX1_take_64 hr (by decide) (by decide) hF
def F_X1_tell (a0 : Nat) (a1 : Int32) (h0 : PM) : Option (Int32 × PM) := if a1 = 0 then (gI h0 a0 2 1 fun x1 => some (x1, h0)) else (if a1 = 1 then (gI h0 a0 2 2 fun x2 => some (x2, h0)) else (if a1 = 2 then (gI h0 a0 2 3 fun x3 => some (x3, h0)) else (if a1 = 3 then (gI h0 a0 2 4 fun x4 => some (x4, h0)) else (if a1 = 4 then (gI h0 a0 2 5 fun x5 => some (x5, h0)) else (if a1 = 5 then (gI h0 a0 2 6 fun x6 => some (x6, h0)) else (gI h0 a0 2 7 fun x7 => some (x7, h0)))))))
set_option maxRecDepth 100000 in
set_option maxHeartbeats 4000000 in
theorem S_X1_tell {a0 : Nat} {a1 : Int32} {h0 : PM} (r : Int32) (h' : PM) (hF : F_X1_tell a0 a1 h0 = some (r, h')) : CN yX1_tell cX1_tell 2 (some .int) 0 0 0 [.ref a0, .int a1] h0 (some (.int r)) h' := by
  obtain ⟨X, eX⟩ : ∃ X, X = (r, h') := ⟨_, rfl⟩
  rw [← eX] at hF
  have e1 : r = X.1 := by rw [eX]
  have e2 : h' = X.2 := by rw [eX]
  rw [e1, e2]
  clear eX e1 e2
  unfold F_X1_tell at hF
  refine CN_of (by decide) (fun ρ => Nat.le_of_ble_eq_true rfl) rfl ?_
  intro p l e s m args below meth c D cy base ρ hT C V hr hnm
  refine r_iload_n C dX1_tell_0 rfl 1 rfl ?_
  by_cases q0 : a1 = 0
  · rw [if_pos q0] at hF
    refine r_tableIn (tgt := 40) C dX1_tell_1 (by rw [q0]; decide) (by rw [q0]; decide) (by rw [q0] <;> rfl) (by decide) ?_
    refine r_aload_n C dX1_tell_40 rfl 0 rfl ?_
    refine k_gI C dX1_tell_41 fd_X1_15 (by decide) hF (fun x1 hF => ?_)
    exact k_iret C dX1_tell_44 hr (by decide) (by decide) hF
  rw [if_neg q0] at hF
  by_cases q1 : a1 = 1
  · rw [if_pos q1] at hF
    refine r_tableIn (tgt := 45) C dX1_tell_1 (by rw [q1]; decide) (by rw [q1]; decide) (by rw [q1] <;> rfl) (by decide) ?_
    refine r_aload_n C dX1_tell_45 rfl 0 rfl ?_
    refine k_gI C dX1_tell_46 fd_X1_18 (by decide) hF (fun x2 hF => ?_)
    exact k_iret C dX1_tell_49 hr (by decide) (by decide) hF
  rw [if_neg q1] at hF
  by_cases q2 : a1 = 2
  · rw [if_pos q2] at hF
    refine r_tableIn (tgt := 50) C dX1_tell_1 (by rw [q2]; decide) (by rw [q2]; decide) (by rw [q2] <;> rfl) (by decide) ?_
    refine r_aload_n C dX1_tell_50 rfl 0 rfl ?_
    refine k_gI C dX1_tell_51 fd_X1_21 (by decide) hF (fun x3 hF => ?_)
    exact k_iret C dX1_tell_54 hr (by decide) (by decide) hF
  rw [if_neg q2] at hF
  by_cases q3 : a1 = 3
  · rw [if_pos q3] at hF
    refine r_tableIn (tgt := 55) C dX1_tell_1 (by rw [q3]; decide) (by rw [q3]; decide) (by rw [q3] <;> rfl) (by decide) ?_
    refine r_aload_n C dX1_tell_55 rfl 0 rfl ?_
    refine k_gI C dX1_tell_56 fd_X1_24 (by decide) hF (fun x4 hF => ?_)
    exact k_iret C dX1_tell_59 hr (by decide) (by decide) hF
  rw [if_neg q3] at hF
  by_cases q4 : a1 = 4
  · rw [if_pos q4] at hF
    refine r_tableIn (tgt := 60) C dX1_tell_1 (by rw [q4]; decide) (by rw [q4]; decide) (by rw [q4] <;> rfl) (by decide) ?_
    refine r_aload_n C dX1_tell_60 rfl 0 rfl ?_
    refine k_gI C dX1_tell_61 fd_X1_27 (by decide) hF (fun x5 hF => ?_)
    exact k_iret C dX1_tell_64 hr (by decide) (by decide) hF
  rw [if_neg q4] at hF
  by_cases q5 : a1 = 5
  · rw [if_pos q5] at hF
    refine r_tableIn (tgt := 65) C dX1_tell_1 (by rw [q5]; decide) (by rw [q5]; decide) (by rw [q5] <;> rfl) (by decide) ?_
    refine r_aload_n C dX1_tell_65 rfl 0 rfl ?_
    refine k_gI C dX1_tell_66 fd_X1_30 (by decide) hF (fun x6 hF => ?_)
    exact k_iret C dX1_tell_69 hr (by decide) (by decide) hF
  rw [if_neg q5] at hF
  refine r_tableOut (tgt := 70) C dX1_tell_1 ?_ (by decide) ?_
  · have z0 := sw_ne q0; have z1 := sw_ne q1; have z2 := sw_ne q2; have z3 := sw_ne q3; have z4 := sw_ne q4; have z5 := sw_ne q5
    have w0 : ((0 : Int32)).toInt = 0 := (by decide); have w1 : ((1 : Int32)).toInt = 1 := (by decide); have w2 : ((2 : Int32)).toInt = 2 := (by decide); have w3 : ((3 : Int32)).toInt = 3 := (by decide); have w4 : ((4 : Int32)).toInt = 4 := (by decide); have w5 : ((5 : Int32)).toInt = 5 := (by decide)
    omega
  · refine r_aload_n C dX1_tell_70 rfl 0 rfl ?_
    refine k_gI C dX1_tell_71 fd_X1_33 (by decide) hF (fun x7 hF => ?_)
    exact k_iret C dX1_tell_74 hr (by decide) (by decide) hF
def F_X2_init (a0 : Nat) (h0 : PM) : Option (Unit × PM) := nA h0 ((a0 + 1)) 20 10 fun h1 => pR h1 a0 3 0 ((a0 + 1)) fun h2 => nA h2 ((a0 + 2)) 20 10 fun h3 => pR h3 a0 3 1 ((a0 + 2)) fun h4 => nA h4 ((a0 + 3)) 20 1024 fun h5 => pR h5 a0 3 2 ((a0 + 3)) fun h6 => pI h6 a0 3 3 0 fun h7 => some ((), h7)
set_option maxRecDepth 100000 in
set_option maxHeartbeats 4000000 in
theorem S_X2_init {a0 : Nat} {h0 : PM} (r : Unit) (h' : PM) (hF : F_X2_init a0 h0 = some (r, h')) : CN yX2_init cX2_init 1 none 3 1044 1 [.ref a0] h0 none h' := by
  obtain ⟨X, eX⟩ : ∃ X, X = (r, h') := ⟨_, rfl⟩
  rw [← eX] at hF
  have e1 : r = X.1 := by rw [eX]
  have e2 : h' = X.2 := by rw [eX]
  rw [e2]
  clear eX e1 e2
  unfold F_X2_init at hF
  refine CN_of (by decide) (fun ρ => Nat.le_of_ble_eq_true rfl) rfl ?_
  intro p l e s m args below meth c D cy base ρ hT C V hr hnm
  refine r_aload_n C dX2_init_0 rfl 0 rfl ?_
  refine r_objInit C dX2_init_1 ml_X2_3 im_obj cd_obj (by decide) (Nat.le_of_ble_eq_true rfl) ?_
  refine r_aload_n C dX2_init_4 rfl 0 rfl ?_
  refine r_bipush (v := 10) C dX2_init_5 (by decide) ?_
  refine k_newi (N := 10) (a := (a0 + 1)) C dX2_init_7 ac_int (by decide) (by decide) (by decide) hF (fun h1 hF => ?_)
  refine k_pR C dX2_init_9 fd_X2_9 (fun _ => hnm) (by decide) hF (fun h2 hF => ?_)
  refine r_aload_n C dX2_init_12 rfl 0 rfl ?_
  refine r_bipush (v := 10) C dX2_init_13 (by decide) ?_
  refine k_newi (N := 10) (a := (a0 + 2)) C dX2_init_15 ac_int (by decide) (by decide) (by decide) hF (fun h3 hF => ?_)
  refine k_pR C dX2_init_17 fd_X2_15 (fun _ => hnm) (by decide) hF (fun h4 hF => ?_)
  refine r_aload_n C dX2_init_20 rfl 0 rfl ?_
  refine r_sipush (v := 1024) C dX2_init_21 (by decide) ?_
  refine k_newi (N := 1024) (a := (a0 + 3)) C dX2_init_24 ac_int (by decide) (by decide) (by decide) hF (fun h5 hF => ?_)
  refine k_pR C dX2_init_26 fd_X2_18 (fun _ => hnm) (by decide) hF (fun h6 hF => ?_)
  refine r_aload_n C dX2_init_29 rfl 0 rfl ?_
  refine r_iconst (v := 0) C dX2_init_30 (by decide) ?_
  refine k_pI C dX2_init_31 fd_X2_21 (fun z => by cases z) (by decide) hF (fun h7 hF => ?_)
  exact k_vret C dX2_init_34 hr (by decide) (by decide) hF
def F_X11_lowestBit (a0 : Int64) (h0 : PM) : Option (Int32 × PM) := cl (F_J13_bitCount_95d88 ((a0 &&& (-a0)) - 1) h0) fun r1 h2 => some (r1, h2)
set_option maxRecDepth 100000 in
set_option maxHeartbeats 4000000 in
theorem S_X11_lowestBit {a0 : Int64} {h0 : PM} (r : Int32) (h' : PM) (hF : F_X11_lowestBit a0 h0 = some (r, h')) : CN yX11_lowestBit cX11_lowestBit 2 (some .int) 0 0 1 [.long a0] h0 (some (.int r)) h' := by
  obtain ⟨X, eX⟩ : ∃ X, X = (r, h') := ⟨_, rfl⟩
  rw [← eX] at hF
  have e1 : r = X.1 := by rw [eX]
  have e2 : h' = X.2 := by rw [eX]
  rw [e1, e2]
  clear eX e1 e2
  unfold F_X11_lowestBit at hF
  refine CN_of (by decide) (fun ρ => Nat.le_of_ble_eq_true rfl) rfl ?_
  intro p l e s m args below meth c D cy base ρ hT C V hr hnm
  refine r_lload_n C dX11_lowestBit_0 rfl 0 rfl ?_
  refine r_lload_n C dX11_lowestBit_1 rfl 0 rfl ?_
  refine r_lneg C dX11_lowestBit_2 ?_
  refine r_land C dX11_lowestBit_3 ?_
  refine r_lconst (v := 1) C dX11_lowestBit_4 (by decide) ?_
  refine r_lsub C dX11_lowestBit_5 ?_
  obtain ⟨r1, h2, hc3, hF⟩ := cl_some hF
  refine r_callS (As := [.long ((a0 &&& (-a0)) - 1)]) C dX11_lowestBit_6 V hT cal_J13_bitCount_95d88 ml_X11_109 sm_J13_bitCount_95d88 (by decide) rfl rfl (Nat.le_of_ble_eq_true rfl) (by decide) (by decide) (S_J13_bitCount_95d88 _ _ hc3) ?_
  exact k_iret C dX11_lowestBit_9 hr (by decide) (by decide) hF
def F_X11_holds (a0 : Int64) (a2 : Int32) (h0 : PM) : Option (Int32 × PM) := jn (fun (s1 : Int32) (h2 : PM) => rz s1 h2) fun k15 => if (lg_cmp (((Int64.toUInt64 a0 >>> ((Int32.toInt64 a2).toUInt64 &&& Int64.toUInt64 63)).toInt64) &&& 1) 0) = 0 then (k15 0 h0) else (k15 1 h0)
set_option maxRecDepth 100000 in
set_option maxHeartbeats 4000000 in
theorem S_X11_holds {a0 : Int64} {a2 : Int32} {h0 : PM} (r : Int32) (h' : PM) (hF : F_X11_holds a0 a2 h0 = some (r, h')) : CN yX11_holds cX11_holds 3 (some .boolean) 0 0 0 [.long a0, .int a2] h0 (some (.int r)) h' := by
  obtain ⟨X, eX⟩ : ∃ X, X = (r, h') := ⟨_, rfl⟩
  rw [← eX] at hF
  have e1 : r = X.1 := by rw [eX]
  have e2 : h' = X.2 := by rw [eX]
  rw [e1, e2]
  clear eX e1 e2
  unfold F_X11_holds at hF
  refine CN_of (by decide) (fun ρ => Nat.le_of_ble_eq_true rfl) rfl ?_
  intro p l e s m args below meth c D cy base ρ hT C V hr hnm
  refine r_lload_n C dX11_holds_0 rfl 0 rfl ?_
  refine r_iload_n C dX11_holds_1 rfl 1 rfl ?_
  refine r_lushr C dX11_holds_2 ?_
  refine r_lconst (v := 1) C dX11_holds_3 (by decide) ?_
  refine r_land C dX11_holds_4 ?_
  refine r_lconst (v := 0) C dX11_holds_5 (by decide) ?_
  refine r_lcmp C dX11_holds_6 ?_
  obtain ⟨k15, ek15, hF⟩ := jn_some hF
  have Jk15 : ∀ (s1 : Int32) (h2 : PM), k15 s1 h2 = some X → WP p l e (rmN 0 0 0) s m args below meth c D cy base ρ h0 0 0 3 (MQ below (QR D cy base ρ h0 (some (.int X.1)) X.2) args s 0 0 (fun q => base ≤ q)) 15 [] [.int s1] h2 := by
    intro s1 h2 hF
    rw [ek15] at hF
    exact k_zret C dX11_holds_15 hr (by decide) (by decide) hF
  refine r_if_eq (tgt := 14) C dX11_holds_7 (by decide) hF (fun hF => ?_) (fun hF => ?_)
  · refine r_iconst (v := 0) C dX11_holds_14 (by decide) ?_
    exact r_sub [] rfl (Jk15 _ _ hF)
  · refine r_iconst (v := 1) C dX11_holds_10 (by decide) ?_
    refine r_goto (tgt := 15) C dX11_holds_11 (by decide) ?_
    exact r_sub [] rfl (Jk15 _ _ hF)
def F_X2_apart (a0 : Nat) (a1 : Int32) (a2 : Int32) (h0 : PM) : Option (Int32 × PM) := gR h0 a0 3 1 fun x1 => aI h0 x1 a1 fun x2 => gR h0 a0 3 1 fun x3 => aI h0 x3 a2 fun x4 => some (ab (x2 - x4), h0)
set_option maxRecDepth 100000 in
set_option maxHeartbeats 4000000 in
theorem S_X2_apart {a0 : Nat} {a1 : Int32} {a2 : Int32} {h0 : PM} (r : Int32) (h' : PM) (hF : F_X2_apart a0 a1 a2 h0 = some (r, h')) : CN yX2_apart cX2_apart 3 (some .int) 0 0 1 [.ref a0, .int a1, .int a2] h0 (some (.int r)) h' := by
  obtain ⟨X, eX⟩ : ∃ X, X = (r, h') := ⟨_, rfl⟩
  rw [← eX] at hF
  have e1 : r = X.1 := by rw [eX]
  have e2 : h' = X.2 := by rw [eX]
  rw [e1, e2]
  clear eX e1 e2
  unfold F_X2_apart at hF
  refine CN_of (by decide) (fun ρ => Nat.le_of_ble_eq_true rfl) rfl ?_
  intro p l e s m args below meth c D cy base ρ hT C V hr hnm
  refine r_aload_n C dX2_apart_0 rfl 0 rfl ?_
  refine k_gR C dX2_apart_1 fd_X2_15 (by decide) hF (fun x1 hF => ?_)
  refine r_iload_n C dX2_apart_4 rfl 1 rfl ?_
  refine k_aI C dX2_apart_5 hF (fun x2 hF => ?_)
  refine r_aload_n C dX2_apart_6 rfl 0 rfl ?_
  refine k_gR C dX2_apart_7 fd_X2_15 (by decide) hF (fun x3 hF => ?_)
  refine r_iload_n C dX2_apart_10 rfl 2 rfl ?_
  refine k_aI C dX2_apart_11 hF (fun x4 hF => ?_)
  refine r_isub C dX2_apart_12 ?_
  refine r_mabs C dX2_apart_13 mm_X2_90 mm_sabs mm_i mm_cabs (by decide) (Nat.le_of_ble_eq_true rfl) (by decide) (by decide) ?_
  exact k_iret C dX2_apart_16 hr (by decide) (by decide) hF
def F_X2_isPair (a0 : Nat) (a1 : Int32) (a2 : Int32) (h0 : PM) : Option (Int32 × PM) := tst h0 a0 3 (cl (F_X2_apart a0 a1 a2 h0) fun r1 h2 => gR h2 a0 3 1 fun x4 => aI h2 x4 a1 fun x5 => gR h2 a0 3 1 fun x6 => aI h2 x6 a2 fun x7 => jn (fun (s8 : Int32) (h9 : PM) => rz s8 h9) fun k36 => if (100 * (mx x5 x7)) < (1000 * r1) then (k36 0 h2) else (k36 1 h2))
set_option maxRecDepth 100000 in
set_option maxHeartbeats 4000000 in
theorem S_X2_isPair {a0 : Nat} {a1 : Int32} {a2 : Int32} {h0 : PM} (r : Int32) (h' : PM) (hF : F_X2_isPair a0 a1 a2 h0 = some (r, h')) : CN yX2_isPair cX2_isPair 3 (some .boolean) 0 0 2 [.ref a0, .int a1, .int a2] h0 (some (.int r)) h' := by
  obtain ⟨X, eX⟩ : ∃ X, X = (r, h') := ⟨_, rfl⟩
  rw [← eX] at hF
  have e1 : r = X.1 := by rw [eX]
  have e2 : h' = X.2 := by rw [eX]
  rw [e1, e2]
  clear eX e1 e2
  unfold F_X2_isPair at hF
  refine CN_of (by decide) (fun ρ => Nat.le_of_ble_eq_true rfl) rfl ?_
  intro p l e s m args below meth c D cy base ρ hT C V hr hnm
  refine r_sipush (v := 1000) C dX2_isPair_0 (by decide) ?_
  refine r_aload_n C dX2_isPair_3 rfl 0 rfl ?_
  refine r_iload_n C dX2_isPair_4 rfl 1 rfl ?_
  refine r_iload_n C dX2_isPair_5 rfl 2 rfl ?_
  obtain ⟨ht, hF⟩ := tst_some hF
  obtain ⟨r1, h2, hc3, hF⟩ := cl_some hF
  refine r_callV (As := [.int a1, .int a2]) C dX2_isPair_6 V hT cal_X2_apart cls_3 ml_X2_86 im_X2_apart se_X2_apart ht (by decide) rfl rfl (Nat.le_of_ble_eq_true rfl) (by decide) (by decide) (S_X2_apart _ _ hc3) ?_
  refine r_imul C dX2_isPair_9 ?_
  refine r_bipush (v := 100) C dX2_isPair_10 (by decide) ?_
  refine r_aload_n C dX2_isPair_12 rfl 0 rfl ?_
  refine k_gR C dX2_isPair_13 fd_X2_15 (by decide) hF (fun x4 hF => ?_)
  refine r_iload_n C dX2_isPair_16 rfl 1 rfl ?_
  refine k_aI C dX2_isPair_17 hF (fun x5 hF => ?_)
  refine r_aload_n C dX2_isPair_18 rfl 0 rfl ?_
  refine k_gR C dX2_isPair_19 fd_X2_15 (by decide) hF (fun x6 hF => ?_)
  refine r_iload_n C dX2_isPair_22 rfl 2 rfl ?_
  refine k_aI C dX2_isPair_23 hF (fun x7 hF => ?_)
  refine r_mmax C dX2_isPair_24 mm_X2_81 mm_smax mm_i mm_cmax (by decide) (Nat.le_of_ble_eq_true rfl) (by decide) (by decide) ?_
  refine r_imul C dX2_isPair_27 ?_
  obtain ⟨k36, ek36, hF⟩ := jn_some hF
  have Jk36 : ∀ (s8 : Int32) (h9 : PM), k36 s8 h9 = some X → WP p l e (rmN 0 0 2) s m args below meth c D cy base ρ h0 0 0 3 (MQ below (QR D cy base ρ h0 (some (.int X.1)) X.2) args s 0 0 (fun q => base ≤ q)) 36 [] [.int s8] h9 := by
    intro s8 h9 hF
    rw [ek36] at hF
    exact k_zret C dX2_isPair_36 hr (by decide) (by decide) hF
  refine r_icmp_gt (tgt := 35) C dX2_isPair_28 (by decide) hF (fun hF => ?_) (fun hF => ?_)
  · refine r_iconst (v := 0) C dX2_isPair_35 (by decide) ?_
    exact r_sub [] rfl (Jk36 _ _ hF)
  · refine r_iconst (v := 1) C dX2_isPair_31 (by decide) ?_
    refine r_goto (tgt := 36) C dX2_isPair_32 (by decide) ?_
    exact r_sub [] rfl (Jk36 _ _ hF)
def F_X2_withPair (a0 : Nat) (a1 : Int32) (a2 : Int32) (a3 : Int32) (h0 : PM) : Option (Int32 × PM) := gR h0 a0 3 2 fun x1 => aI h0 x1 (a1 &&& ((((1 : Int32) <<< (a2 &&& 31)) ||| ((1 : Int32) <<< (a3 &&& 31))) ^^^ (-1))) fun x2 => tst h0 a0 3 (cl (F_X2_apart a0 a2 a3 h0) fun r3 h4 => some ((x2 + 1000000) - r3, h4))
set_option maxRecDepth 100000 in
set_option maxHeartbeats 4000000 in
theorem S_X2_withPair {a0 : Nat} {a1 : Int32} {a2 : Int32} {a3 : Int32} {h0 : PM} (r : Int32) (h' : PM) (hF : F_X2_withPair a0 a1 a2 a3 h0 = some (r, h')) : CN yX2_withPair cX2_withPair 4 (some .int) 0 0 2 [.ref a0, .int a1, .int a2, .int a3] h0 (some (.int r)) h' := by
  obtain ⟨X, eX⟩ : ∃ X, X = (r, h') := ⟨_, rfl⟩
  rw [← eX] at hF
  have e1 : r = X.1 := by rw [eX]
  have e2 : h' = X.2 := by rw [eX]
  rw [e1, e2]
  clear eX e1 e2
  unfold F_X2_withPair at hF
  refine CN_of (by decide) (fun ρ => Nat.le_of_ble_eq_true rfl) rfl ?_
  intro p l e s m args below meth c D cy base ρ hT C V hr hnm
  refine r_aload_n C dX2_withPair_0 rfl 0 rfl ?_
  refine k_gR C dX2_withPair_1 fd_X2_18 (by decide) hF (fun x1 hF => ?_)
  refine r_iload_n C dX2_withPair_4 rfl 1 rfl ?_
  refine r_iconst (v := 1) C dX2_withPair_5 (by decide) ?_
  refine r_iload_n C dX2_withPair_6 rfl 2 rfl ?_
  refine r_ishl C dX2_withPair_7 ?_
  refine r_iconst (v := 1) C dX2_withPair_8 (by decide) ?_
  refine r_iload_n C dX2_withPair_9 rfl 3 rfl ?_
  refine r_ishl C dX2_withPair_10 ?_
  refine r_ior C dX2_withPair_11 ?_
  refine r_iconst (v := (-1)) C dX2_withPair_12 (by decide) ?_
  refine r_ixor C dX2_withPair_13 ?_
  refine r_iand C dX2_withPair_14 ?_
  refine k_aI C dX2_withPair_15 hF (fun x2 hF => ?_)
  refine r_ldc C dX2_withPair_16 ct_X2_89 ?_
  refine r_iadd C dX2_withPair_18 ?_
  refine r_aload_n C dX2_withPair_19 rfl 0 rfl ?_
  refine r_iload_n C dX2_withPair_20 rfl 2 rfl ?_
  refine r_iload_n C dX2_withPair_21 rfl 3 rfl ?_
  obtain ⟨ht, hF⟩ := tst_some hF
  obtain ⟨r3, h4, hc5, hF⟩ := cl_some hF
  refine r_callV (As := [.int a2, .int a3]) C dX2_withPair_22 V hT cal_X2_apart cls_3 ml_X2_86 im_X2_apart se_X2_apart ht (by decide) rfl rfl (Nat.le_of_ble_eq_true rfl) (by decide) (by decide) (S_X2_apart _ _ hc5) ?_
  refine r_isub C dX2_withPair_25 ?_
  exact k_iret C dX2_withPair_26 hr (by decide) (by decide) hF
def F_X2_bestOf_L24 (c0 : Nat) (c1 : Int32) (c2 : Int32) (k72 : Int32 → PM → Option (Int32 × PM)) : Nat → Int32 → Int32 → PM → Option (Int32 × PM)
  | 0, _, _, _ => none
  | fu + 1, v9, v10, h11 => gI h11 c0 3 3 fun x12 => if x12 ≤ v10 then (k72 v9 h11) else (cl (F_X11_holds (Int32.toInt64 c1) v10 h11) fun r13 h14 => jn (fun (v16 : Int32) (h17 : PM) => F_X2_bestOf_L24 c0 c1 c2 k72 fu v16 (v10 + 1) h17) fun k66 => if r13 = 0 then (k66 v9 h14) else (tst h14 c0 3 (cl (F_X2_isPair c0 c2 v10 h14) fun r19 h20 => if r19 = 0 then (k66 v9 h20) else (tst h20 c0 3 (cl (F_X2_withPair c0 c1 c2 v10 h20) fun r22 h23 => lt_ (mx v9 r22) fun x25 => k66 x25 h23)))))
def F_X2_bestOf (a0 : Nat) (a1 : Int32) (h0 : PM) : Option (Int32 × PM) := cl (F_X11_lowestBit (Int32.toInt64 a1) h0) fun r1 h2 => gR h2 a0 3 2 fun x4 => aI h2 x4 (a1 &&& (((1 : Int32) <<< (r1 &&& 31)) ^^^ (-1))) fun x5 => lt_ (r1 + 1) fun x6 => jn (fun (v7 : Int32) (h8 : PM) => some (v7, h8)) fun k72 => F_X2_bestOf_L24 a0 a1 r1 k72 LF x5 x6 h2
set_option maxRecDepth 100000 in
set_option maxHeartbeats 4000000 in
theorem S_X2_bestOf {a0 : Nat} {a1 : Int32} {h0 : PM} (r : Int32) (h' : PM) (hF : F_X2_bestOf a0 a1 h0 = some (r, h')) : CN yX2_bestOf cX2_bestOf 5 (some .int) 0 0 3 [.ref a0, .int a1] h0 (some (.int r)) h' := by
  obtain ⟨X, eX⟩ : ∃ X, X = (r, h') := ⟨_, rfl⟩
  rw [← eX] at hF
  have e1 : r = X.1 := by rw [eX]
  have e2 : h' = X.2 := by rw [eX]
  rw [e1, e2]
  clear eX e1 e2
  unfold F_X2_bestOf at hF
  refine CN_of (by decide) (fun ρ => Nat.le_of_ble_eq_true rfl) rfl ?_
  intro p l e s m args below meth c D cy base ρ hT C V hr hnm
  refine r_iload_n C dX2_bestOf_0 rfl 1 rfl ?_
  refine r_i2l C dX2_bestOf_1 ?_
  obtain ⟨r1, h2, hc3, hF⟩ := cl_some hF
  refine r_callSN (As := [.long (Int32.toInt64 a1)]) C dX2_bestOf_2 V hT cal_X11_lowestBit mn_X2_33 sm_X11_lowestBit (by decide) rfl rfl (Nat.le_of_ble_eq_true rfl) (by decide) (by decide) (S_X11_lowestBit _ _ hc3) ?_
  refine r_istore_n C dX2_bestOf_5 rfl (by decide) rfl ?_
  refine r_aload_n C dX2_bestOf_6 rfl 1 rfl ?_
  refine k_gR C dX2_bestOf_7 fd_X2_18 (by decide) hF (fun x4 hF => ?_)
  refine r_iload_n C dX2_bestOf_10 rfl 2 rfl ?_
  refine r_iconst (v := 1) C dX2_bestOf_11 (by decide) ?_
  refine r_iload_n C dX2_bestOf_12 rfl 0 rfl ?_
  refine r_ishl C dX2_bestOf_13 ?_
  refine r_iconst (v := (-1)) C dX2_bestOf_14 (by decide) ?_
  refine r_ixor C dX2_bestOf_15 ?_
  refine r_iand C dX2_bestOf_16 ?_
  refine k_aI C dX2_bestOf_17 hF (fun x5 hF => ?_)
  refine r_istore_n C dX2_bestOf_18 rfl (by decide) rfl ?_
  refine r_iload_n C dX2_bestOf_19 rfl 1 rfl ?_
  refine r_iconst (v := 1) C dX2_bestOf_20 (by decide) ?_
  refine r_iadd C dX2_bestOf_21 ?_
  refine k_lti hF (fun x6 hF => ?_)
  refine r_istore C dX2_bestOf_22 (by decide) rfl ?_
  obtain ⟨k72, ek72, hF⟩ := jn_some hF
  have Jk72 : ∀ (v7 : Int32) (h8 : PM), k72 v7 h8 = some X → WP p l e (rmN 0 0 3) s m args below meth c D cy base ρ h0 0 0 5 (MQ below (QR D cy base ρ h0 (some (.int X.1)) X.2) args s 0 0 (fun q => base ≤ q)) 72 [(3, .int v7)] [] h8 := by
    intro v7 h8 hF
    rw [ek72] at hF
    refine r_iload_n C dX2_bestOf_72 rfl 0 rfl ?_
    exact k_iret C dX2_bestOf_73 hr (by decide) (by decide) hF
  have L24 : ∀ (fu : Nat) (v9 : Int32) (v10 : Int32) (h11 : PM), F_X2_bestOf_L24 a0 a1 r1 k72 fu v9 v10 h11 = some X → WP p l e (rmN 0 0 3) s m args below meth c D cy base ρ h0 0 0 5 (MQ below (QR D cy base ρ h0 (some (.int X.1)) X.2) args s 0 0 (fun q => base ≤ q)) 24 [(0, .ref a0), (1, .int a1), (2, .int r1), (3, .int v9), (4, .int v10)] [] h11 := by
    intro fu
    induction fu with
    | zero => intro v9 v10 h11 hF; rw [F_X2_bestOf_L24.eq_1] at hF; cases hF
    | succ fu ih =>
      intro v9 v10 h11 hF
      rw [F_X2_bestOf_L24.eq_2] at hF
      refine r_iload C dX2_bestOf_24 4 rfl ?_
      refine r_aload_n C dX2_bestOf_26 rfl 0 rfl ?_
      refine k_gI C dX2_bestOf_27 fd_X2_21 (by decide) hF (fun x12 hF => ?_)
      refine r_icmp_ge (tgt := 72) C dX2_bestOf_30 (by decide) hF (fun hF => ?_) (fun hF => ?_)
      · exact r_sub [3] rfl (Jk72 _ _ hF)
      · refine r_iload_n C dX2_bestOf_33 rfl 1 rfl ?_
        refine r_i2l C dX2_bestOf_34 ?_
        refine r_iload C dX2_bestOf_35 4 rfl ?_
        obtain ⟨r13, h14, hc15, hF⟩ := cl_some hF
        refine r_callSN (As := [.long (Int32.toInt64 a1), .int v10]) C dX2_bestOf_37 V hT cal_X11_holds mn_X2_69 sm_X11_holds (by decide) rfl rfl (Nat.le_of_ble_eq_true rfl) (by decide) (by decide) (S_X11_holds _ _ hc15) ?_
        obtain ⟨k66_17, ek66_17, hF⟩ := jn_some hF
        have Jk66_17 : ∀ (v16 : Int32) (h18 : PM), k66_17 v16 h18 = some X → WP p l e (rmN 0 0 3) s m args below meth c D cy base ρ h0 0 0 5 (MQ below (QR D cy base ρ h0 (some (.int X.1)) X.2) args s 0 0 (fun q => base ≤ q)) 66 [(0, .ref a0), (1, .int a1), (2, .int r1), (3, .int v16), (4, .int v10)] [] h18 := by
          intro v16 h18 hF
          rw [ek66_17] at hF
          refine r_iinc (v := v10 + 1) C dX2_bestOf_66 4 rfl (congrArg (fun z => v10 + z) (by decide)) (by decide) rfl ?_
          refine r_goto (tgt := 24) C dX2_bestOf_69 (by decide) ?_
          exact r_sub [1, 2, 3, 4, 0] rfl (ih _ _ _ hF)
        refine r_if_eq (tgt := 66) C dX2_bestOf_40 (by decide) hF (fun hF => ?_) (fun hF => ?_)
        · exact Jk66_17 _ _ hF
        · refine r_aload_n C dX2_bestOf_43 rfl 0 rfl ?_
          refine r_iload_n C dX2_bestOf_44 rfl 2 rfl ?_
          refine r_iload C dX2_bestOf_45 4 rfl ?_
          obtain ⟨ht, hF⟩ := tst_some hF
          obtain ⟨r20, h21, hc22, hF⟩ := cl_some hF
          refine r_callV (As := [.int r1, .int v10]) C dX2_bestOf_47 V hT cal_X2_isPair cls_3 ml_X2_73 im_X2_isPair se_X2_isPair ht (by decide) rfl rfl (Nat.le_of_ble_eq_true rfl) (by decide) (by decide) (S_X2_isPair _ _ hc22) ?_
          refine r_if_eq (tgt := 66) C dX2_bestOf_50 (by decide) hF (fun hF => ?_) (fun hF => ?_)
          · exact Jk66_17 _ _ hF
          · refine r_iload_n C dX2_bestOf_53 rfl 3 rfl ?_
            refine r_aload_n C dX2_bestOf_54 rfl 0 rfl ?_
            refine r_iload_n C dX2_bestOf_55 rfl 1 rfl ?_
            refine r_iload_n C dX2_bestOf_56 rfl 2 rfl ?_
            refine r_iload C dX2_bestOf_57 4 rfl ?_
            obtain ⟨ht, hF⟩ := tst_some hF
            obtain ⟨r23, h24, hc25, hF⟩ := cl_some hF
            refine r_callV (As := [.int a1, .int r1, .int v10]) C dX2_bestOf_59 V hT cal_X2_withPair cls_3 ml_X2_77 im_X2_withPair se_X2_withPair ht (by decide) rfl rfl (Nat.le_of_ble_eq_true rfl) (by decide) (by decide) (S_X2_withPair _ _ hc25) ?_
            refine r_mmax C dX2_bestOf_62 mm_X2_81 mm_smax mm_i mm_cmax (by decide) (Nat.le_of_ble_eq_true rfl) (by decide) (by decide) ?_
            refine k_lti hF (fun x26 hF => ?_)
            refine r_istore_n C dX2_bestOf_65 rfl (by decide) rfl ?_
            exact r_sub [1, 2, 3, 0, 4] rfl (Jk66_17 _ _ hF)
  exact r_sub [3, 4, 2, 1, 0] rfl (L24 _ _ _ _ hF)
def F_X2_collect_L7 (c0 : Nat) (c1 : Nat) (k95 : PM → Option (Unit × PM)) : Nat → Int32 → PM → Option (Unit × PM)
  | 0, _, _ => none
  | fu + 1, v3, h4 => tst h4 c1 0 (cl (F_Jx4a65c_size_8abf5 c1 h4) fun r5 h6 => if r5 ≤ v3 then (k95 h6) else (gI h6 c0 3 3 fun x8 => if 10 ≤ x8 then (k95 h6) else (tst h6 c1 0 (cl (F_Jx4a65c_get_915e3 c1 v3 h6) fun r9 h10 => tst h10 r9 9 (gI h10 r9 9 3 fun x12 => jn (fun  (h13 : PM) => F_X2_collect_L7 c0 c1 k95 fu (v3 + 1) h13) fun k89 => if x12 = 0 then (k89 h10) else (gI h10 r9 9 4 fun x15 => if ¬ x15 = (-1) then (k89 h10) else (gI h10 r9 9 6 fun x16 => if ¬ x16 = (-1) then (k89 h10) else (gR h10 c0 3 0 fun x17 => gI h10 c0 3 3 fun x18 => sI h10 x17 x18 v3 fun h19 => gR h19 c0 3 1 fun x20 => gI h19 c0 3 3 fun x21 => gI h19 r9 9 2 fun x22 => sI h19 x20 x21 x22 fun h23 => gI h23 c0 3 3 fun x24 => pI h23 c0 3 3 (x24 + 1) fun h25 => k89 h25))))))))
def F_X2_collect (a0 : Nat) (a1 : Nat) (h0 : PM) : Option (Unit × PM) := pI h0 a0 3 3 0 fun h1 => jn (fun  (h2 : PM) => some ((), h2)) fun k95 => F_X2_collect_L7 a0 a1 k95 LF 0 h1
set_option maxRecDepth 100000 in
set_option maxHeartbeats 4000000 in
theorem S_X2_collect {a0 : Nat} {a1 : Nat} {h0 : PM} (r : Unit) (h' : PM) (hF : F_X2_collect a0 a1 h0 = some (r, h')) : CN yX2_collect cX2_collect 4 none 0 0 3 [.ref a0, .ref a1] h0 none h' := by
  obtain ⟨X, eX⟩ : ∃ X, X = (r, h') := ⟨_, rfl⟩
  rw [← eX] at hF
  have e1 : r = X.1 := by rw [eX]
  have e2 : h' = X.2 := by rw [eX]
  rw [e2]
  clear eX e1 e2
  unfold F_X2_collect at hF
  refine CN_of (by decide) (fun ρ => Nat.le_of_ble_eq_true rfl) rfl ?_
  intro p l e s m args below meth c D cy base ρ hT C V hr hnm
  refine r_aload_n C dX2_collect_0 rfl 0 rfl ?_
  refine r_iconst (v := 0) C dX2_collect_1 (by decide) ?_
  refine k_pI C dX2_collect_2 fd_X2_21 (fun z => by cases z) (by decide) hF (fun h1 hF => ?_)
  refine r_iconst (v := 0) C dX2_collect_5 (by decide) ?_
  refine r_istore_n C dX2_collect_6 rfl (by decide) rfl ?_
  obtain ⟨k95, ek95, hF⟩ := jn_some hF
  have Jk95 : ∀  (h2 : PM), k95 h2 = some X → WP p l e (rmN 0 0 3) s m args below meth c D cy base ρ h0 0 0 4 (MQ below (QR D cy base ρ h0 none X.2) args s 0 0 (fun q => base ≤ q)) 95 [] [] h2 := by
    intro h2 hF
    rw [ek95] at hF
    exact k_vret C dX2_collect_95 hr (by decide) (by decide) hF
  have L7 : ∀ (fu : Nat) (v3 : Int32) (h4 : PM), F_X2_collect_L7 a0 a1 k95 fu v3 h4 = some X → WP p l e (rmN 0 0 3) s m args below meth c D cy base ρ h0 0 0 4 (MQ below (QR D cy base ρ h0 none X.2) args s 0 0 (fun q => base ≤ q)) 7 [(0, .ref a0), (1, .ref a1), (2, .int v3)] [] h4 := by
    intro fu
    induction fu with
    | zero => intro v3 h4 hF; rw [F_X2_collect_L7.eq_1] at hF; cases hF
    | succ fu ih =>
      intro v3 h4 hF
      rw [F_X2_collect_L7.eq_2] at hF
      refine r_iload_n C dX2_collect_7 rfl 2 rfl ?_
      refine r_aload_n C dX2_collect_8 rfl 1 rfl ?_
      obtain ⟨ht, hF⟩ := tst_some hF
      obtain ⟨r5, h6, hc7, hF⟩ := cl_some hF
      refine r_callV (As := []) C dX2_collect_9 V hT cal_Jx4a65c_size_8abf5 cls_0 ml_X2_45 im_Jx4a65c_size_8abf5 se_Jx4a65c_size_8abf5 ht (by decide) rfl rfl (Nat.le_of_ble_eq_true rfl) (by decide) (by decide) (S_Jx4a65c_size_8abf5 _ _ hc7) ?_
      refine r_icmp_ge (tgt := 95) C dX2_collect_12 (by decide) hF (fun hF => ?_) (fun hF => ?_)
      · exact r_sub [] rfl (Jk95  _ hF)
      · refine r_aload_n C dX2_collect_15 rfl 0 rfl ?_
        refine k_gI C dX2_collect_16 fd_X2_21 (by decide) hF (fun x8 hF => ?_)
        refine r_bipush (v := 10) C dX2_collect_19 (by decide) ?_
        refine r_icmp_ge (tgt := 95) C dX2_collect_21 (by decide) hF (fun hF => ?_) (fun hF => ?_)
        · exact r_sub [] rfl (Jk95  _ hF)
        · refine r_aload_n C dX2_collect_24 rfl 1 rfl ?_
          refine r_iload_n C dX2_collect_25 rfl 2 rfl ?_
          obtain ⟨ht, hF⟩ := tst_some hF
          obtain ⟨r9, h10, hc11, hF⟩ := cl_some hF
          refine r_callV (As := [.int v3]) C dX2_collect_26 V hT cal_Jx4a65c_get_915e3 cls_0 ml_X2_51 im_Jx4a65c_get_915e3 se_Jx4a65c_get_915e3 ht (by decide) rfl rfl (Nat.le_of_ble_eq_true rfl) (by decide) (by decide) (S_Jx4a65c_get_915e3 _ _ hc11) ?_
          refine k_cast C dX2_collect_29 cls_9 cn_X2_55 hF (fun hF => ?_)
          refine r_astore_n C dX2_collect_32 rfl (by decide) rfl ?_
          refine r_aload_n C dX2_collect_33 rfl 0 rfl ?_
          refine k_gI C dX2_collect_34 fd_X2_57 (by decide) hF (fun x12 hF => ?_)
          obtain ⟨k89_13, ek89_13, hF⟩ := jn_some hF
          have Jk89_13 : ∀  (h14 : PM), k89_13 h14 = some X → WP p l e (rmN 0 0 3) s m args below meth c D cy base ρ h0 0 0 4 (MQ below (QR D cy base ρ h0 none X.2) args s 0 0 (fun q => base ≤ q)) 89 [(0, .ref a0), (1, .ref a1), (2, .int v3)] [] h14 := by
            intro h14 hF
            rw [ek89_13] at hF
            refine r_iinc (v := v3 + 1) C dX2_collect_89 2 rfl (congrArg (fun z => v3 + z) (by decide)) (by decide) rfl ?_
            refine r_goto (tgt := 7) C dX2_collect_92 (by decide) ?_
            exact r_sub [1, 2, 0] rfl (ih _ _ hF)
          refine r_if_eq (tgt := 89) C dX2_collect_37 (by decide) hF (fun hF => ?_) (fun hF => ?_)
          · exact r_sub [1, 2, 3] rfl (Jk89_13  _ hF)
          · refine r_aload_n C dX2_collect_40 rfl 0 rfl ?_
            refine k_gI C dX2_collect_41 fd_X2_61 (by decide) hF (fun x16 hF => ?_)
            refine r_iconst (v := (-1)) C dX2_collect_44 (by decide) ?_
            refine r_icmp_ne (tgt := 89) C dX2_collect_45 (by decide) hF (fun hF => ?_) (fun hF => ?_)
            · exact r_sub [1, 2, 3] rfl (Jk89_13  _ hF)
            · refine r_aload_n C dX2_collect_48 rfl 0 rfl ?_
              refine k_gI C dX2_collect_49 fd_X2_64 (by decide) hF (fun x17 hF => ?_)
              refine r_iconst (v := (-1)) C dX2_collect_52 (by decide) ?_
              refine r_icmp_ne (tgt := 89) C dX2_collect_53 (by decide) hF (fun hF => ?_) (fun hF => ?_)
              · exact r_sub [1, 2, 3] rfl (Jk89_13  _ hF)
              · refine r_aload_n C dX2_collect_56 rfl 1 rfl ?_
                refine k_gR C dX2_collect_57 fd_X2_9 (by decide) hF (fun x18 hF => ?_)
                refine r_aload_n C dX2_collect_60 rfl 1 rfl ?_
                refine k_gI C dX2_collect_61 fd_X2_21 (by decide) hF (fun x19 hF => ?_)
                refine r_iload_n C dX2_collect_64 rfl 3 rfl ?_
                refine k_sI C dX2_collect_65 hF (fun h20 hF => ?_)
                refine r_aload_n C dX2_collect_66 rfl 1 rfl ?_
                refine k_gR C dX2_collect_67 fd_X2_15 (by decide) hF (fun x21 hF => ?_)
                refine r_aload_n C dX2_collect_70 rfl 1 rfl ?_
                refine k_gI C dX2_collect_71 fd_X2_21 (by decide) hF (fun x22 hF => ?_)
                refine r_aload_n C dX2_collect_74 rfl 0 rfl ?_
                refine k_gI C dX2_collect_75 fd_X2_67 (by decide) hF (fun x23 hF => ?_)
                refine k_sI C dX2_collect_78 hF (fun h24 hF => ?_)
                refine r_aload_n C dX2_collect_79 rfl 1 rfl ?_
                refine r_dup C dX2_collect_80 rfl ?_
                refine k_gI C dX2_collect_81 fd_X2_21 (by decide) hF (fun x25 hF => ?_)
                refine r_iconst (v := 1) C dX2_collect_84 (by decide) ?_
                refine r_iadd C dX2_collect_85 ?_
                refine k_pI C dX2_collect_86 fd_X2_21 (fun z => by cases z) (by decide) hF (fun h26 hF => ?_)
                exact r_sub [1, 2, 3] rfl (Jk89_13  _ hF)
  exact r_sub [1, 2, 0] rfl (L7 _ _ _ hF)
def F_X2_join (a0 : Nat) (a1 : Int32) (a2 : Int32) (h0 : PM) : Option (Unit × PM) := tst h0 a0 0 (cl (F_Jx4a65c_size_8abf5 a0 h0) fun r1 h2 => jn (fun  (h4 : PM) => some ((), h4)) fun k40 => if r1 ≤ a1 then (k40 h2) else (tst h2 a0 0 (cl (F_Jx4a65c_size_8abf5 a0 h2) fun r5 h6 => if r5 ≤ a2 then (k40 h6) else (tst h6 a0 0 (cl (F_Jx4a65c_get_915e3 a0 a1 h6) fun r8 h9 => tst h9 r8 9 (pI h9 r8 9 4 a2 fun h11 => tst h11 a0 0 (cl (F_Jx4a65c_get_915e3 a0 a2 h11) fun r12 h13 => tst h13 r12 9 (pI h13 r12 9 4 a1 fun h15 => k40 h15))))))))
set_option maxRecDepth 100000 in
set_option maxHeartbeats 4000000 in
theorem S_X2_join {a0 : Nat} {a1 : Int32} {a2 : Int32} {h0 : PM} (r : Unit) (h' : PM) (hF : F_X2_join a0 a1 a2 h0 = some (r, h')) : CN yX2_join cX2_join 3 none 0 0 3 [.ref a0, .int a1, .int a2] h0 none h' := by
  obtain ⟨X, eX⟩ : ∃ X, X = (r, h') := ⟨_, rfl⟩
  rw [← eX] at hF
  have e1 : r = X.1 := by rw [eX]
  have e2 : h' = X.2 := by rw [eX]
  rw [e2]
  clear eX e1 e2
  unfold F_X2_join at hF
  refine CN_of (by decide) (fun ρ => Nat.le_of_ble_eq_true rfl) rfl ?_
  intro p l e s m args below meth c D cy base ρ hT C V hr hnm
  refine r_iload_n C dX2_join_0 rfl 1 rfl ?_
  refine r_aload_n C dX2_join_1 rfl 0 rfl ?_
  obtain ⟨ht, hF⟩ := tst_some hF
  obtain ⟨r1, h2, hc3, hF⟩ := cl_some hF
  refine r_callV (As := []) C dX2_join_2 V hT cal_Jx4a65c_size_8abf5 cls_0 ml_X2_45 im_Jx4a65c_size_8abf5 se_Jx4a65c_size_8abf5 ht (by decide) rfl rfl (Nat.le_of_ble_eq_true rfl) (by decide) (by decide) (S_Jx4a65c_size_8abf5 _ _ hc3) ?_
  obtain ⟨k40, ek40, hF⟩ := jn_some hF
  have Jk40 : ∀  (h4 : PM), k40 h4 = some X → WP p l e (rmN 0 0 3) s m args below meth c D cy base ρ h0 0 0 3 (MQ below (QR D cy base ρ h0 none X.2) args s 0 0 (fun q => base ≤ q)) 40 [] [] h4 := by
    intro h4 hF
    rw [ek40] at hF
    exact k_vret C dX2_join_40 hr (by decide) (by decide) hF
  refine r_icmp_ge (tgt := 40) C dX2_join_5 (by decide) hF (fun hF => ?_) (fun hF => ?_)
  · exact r_sub [] rfl (Jk40  _ hF)
  · refine r_iload_n C dX2_join_8 rfl 2 rfl ?_
    refine r_aload_n C dX2_join_9 rfl 0 rfl ?_
    obtain ⟨ht, hF⟩ := tst_some hF
    obtain ⟨r5, h6, hc7, hF⟩ := cl_some hF
    refine r_callV (As := []) C dX2_join_10 V hT cal_Jx4a65c_size_8abf5 cls_0 ml_X2_45 im_Jx4a65c_size_8abf5 se_Jx4a65c_size_8abf5 ht (by decide) rfl rfl (Nat.le_of_ble_eq_true rfl) (by decide) (by decide) (S_Jx4a65c_size_8abf5 _ _ hc7) ?_
    refine r_icmp_ge (tgt := 40) C dX2_join_13 (by decide) hF (fun hF => ?_) (fun hF => ?_)
    · exact r_sub [] rfl (Jk40  _ hF)
    · refine r_aload_n C dX2_join_16 rfl 0 rfl ?_
      refine r_iload_n C dX2_join_17 rfl 1 rfl ?_
      obtain ⟨ht, hF⟩ := tst_some hF
      obtain ⟨r8, h9, hc10, hF⟩ := cl_some hF
      refine r_callV (As := [.int a1]) C dX2_join_18 V hT cal_Jx4a65c_get_915e3 cls_0 ml_X2_51 im_Jx4a65c_get_915e3 se_Jx4a65c_get_915e3 ht (by decide) rfl rfl (Nat.le_of_ble_eq_true rfl) (by decide) (by decide) (S_Jx4a65c_get_915e3 _ _ hc10) ?_
      refine k_cast C dX2_join_21 cls_9 cn_X2_55 hF (fun hF => ?_)
      refine r_iload_n C dX2_join_24 rfl 2 rfl ?_
      refine k_pI C dX2_join_25 fd_X2_61 (fun z => by cases z) (by decide) hF (fun h11 hF => ?_)
      refine r_aload_n C dX2_join_28 rfl 0 rfl ?_
      refine r_iload_n C dX2_join_29 rfl 2 rfl ?_
      obtain ⟨ht, hF⟩ := tst_some hF
      obtain ⟨r12, h13, hc14, hF⟩ := cl_some hF
      refine r_callV (As := [.int a2]) C dX2_join_30 V hT cal_Jx4a65c_get_915e3 cls_0 ml_X2_51 im_Jx4a65c_get_915e3 se_Jx4a65c_get_915e3 ht (by decide) rfl rfl (Nat.le_of_ble_eq_true rfl) (by decide) (by decide) (S_Jx4a65c_get_915e3 _ _ hc14) ?_
      refine k_cast C dX2_join_33 cls_9 cn_X2_55 hF (fun hF => ?_)
      refine r_iload_n C dX2_join_36 rfl 1 rfl ?_
      refine k_pI C dX2_join_37 fd_X2_61 (fun z => by cases z) (by decide) hF (fun h15 hF => ?_)
      exact r_sub [] rfl (Jk40  _ hF)
def F_X2_mateIn_L4 (c0 : Nat) (c1 : Int32) (c2 : Int32) (k54 : PM → Option (Int32 × PM)) (k46 : Int32 → PM → Option (Int32 × PM)) : Nat → Int32 → PM → Option (Int32 × PM)
  | 0, _, _ => none
  | fu + 1, v5, h6 => gI h6 c0 3 3 fun x7 => if x7 ≤ v5 then (k54 h6) else (cl (F_X11_holds (Int32.toInt64 c1) v5 h6) fun r8 h9 => jn (fun  (h11 : PM) => F_X2_mateIn_L4 c0 c1 c2 k54 k46 fu (v5 + 1) h11) fun k48 => if r8 = 0 then (k48 h9) else (tst h9 c0 3 (cl (F_X2_isPair c0 c2 v5 h9) fun r13 h14 => if r13 = 0 then (k48 h14) else (tst h14 c0 3 (cl (F_X2_withPair c0 c1 c2 v5 h14) fun r16 h17 => gR h17 c0 3 2 fun x19 => aI h17 x19 c1 fun x20 => if ¬ r16 = x20 then (k48 h17) else (k46 v5 h17))))))
def F_X2_mateIn (a0 : Nat) (a1 : Int32) (a2 : Int32) (h0 : PM) : Option (Int32 × PM) := lt_ (a2 + 1) fun x1 => jn (fun  (h2 : PM) => some ((-1), h2)) fun k54 => jn (fun (v3 : Int32) (h4 : PM) => some (v3, h4)) fun k46 => F_X2_mateIn_L4 a0 a1 a2 k54 k46 LF x1 h0
set_option maxRecDepth 100000 in
set_option maxHeartbeats 4000000 in
theorem S_X2_mateIn {a0 : Nat} {a1 : Int32} {a2 : Int32} {h0 : PM} (r : Int32) (h' : PM) (hF : F_X2_mateIn a0 a1 a2 h0 = some (r, h')) : CN yX2_mateIn cX2_mateIn 4 (some .int) 0 0 3 [.ref a0, .int a1, .int a2] h0 (some (.int r)) h' := by
  obtain ⟨X, eX⟩ : ∃ X, X = (r, h') := ⟨_, rfl⟩
  rw [← eX] at hF
  have e1 : r = X.1 := by rw [eX]
  have e2 : h' = X.2 := by rw [eX]
  rw [e1, e2]
  clear eX e1 e2
  unfold F_X2_mateIn at hF
  refine CN_of (by decide) (fun ρ => Nat.le_of_ble_eq_true rfl) rfl ?_
  intro p l e s m args below meth c D cy base ρ hT C V hr hnm
  refine r_iload_n C dX2_mateIn_0 rfl 2 rfl ?_
  refine r_iconst (v := 1) C dX2_mateIn_1 (by decide) ?_
  refine r_iadd C dX2_mateIn_2 ?_
  refine k_lti hF (fun x1 hF => ?_)
  refine r_istore_n C dX2_mateIn_3 rfl (by decide) rfl ?_
  obtain ⟨k54, ek54, hF⟩ := jn_some hF
  have Jk54 : ∀  (h2 : PM), k54 h2 = some X → WP p l e (rmN 0 0 3) s m args below meth c D cy base ρ h0 0 0 4 (MQ below (QR D cy base ρ h0 (some (.int X.1)) X.2) args s 0 0 (fun q => base ≤ q)) 54 [] [] h2 := by
    intro h2 hF
    rw [ek54] at hF
    refine r_iconst (v := (-1)) C dX2_mateIn_54 (by decide) ?_
    exact k_iret C dX2_mateIn_55 hr (by decide) (by decide) hF
  obtain ⟨k46, ek46, hF⟩ := jn_some hF
  have Jk46 : ∀ (v3 : Int32) (h4 : PM), k46 v3 h4 = some X → WP p l e (rmN 0 0 3) s m args below meth c D cy base ρ h0 0 0 4 (MQ below (QR D cy base ρ h0 (some (.int X.1)) X.2) args s 0 0 (fun q => base ≤ q)) 46 [(3, .int v3)] [] h4 := by
    intro v3 h4 hF
    rw [ek46] at hF
    refine r_iload_n C dX2_mateIn_46 rfl 0 rfl ?_
    exact k_iret C dX2_mateIn_47 hr (by decide) (by decide) hF
  have L4 : ∀ (fu : Nat) (v5 : Int32) (h6 : PM), F_X2_mateIn_L4 a0 a1 a2 k54 k46 fu v5 h6 = some X → WP p l e (rmN 0 0 3) s m args below meth c D cy base ρ h0 0 0 4 (MQ below (QR D cy base ρ h0 (some (.int X.1)) X.2) args s 0 0 (fun q => base ≤ q)) 4 [(0, .ref a0), (1, .int a1), (2, .int a2), (3, .int v5)] [] h6 := by
    intro fu
    induction fu with
    | zero => intro v5 h6 hF; rw [F_X2_mateIn_L4.eq_1] at hF; cases hF
    | succ fu ih =>
      intro v5 h6 hF
      rw [F_X2_mateIn_L4.eq_2] at hF
      refine r_iload_n C dX2_mateIn_4 rfl 3 rfl ?_
      refine r_aload_n C dX2_mateIn_5 rfl 0 rfl ?_
      refine k_gI C dX2_mateIn_6 fd_X2_21 (by decide) hF (fun x7 hF => ?_)
      refine r_icmp_ge (tgt := 54) C dX2_mateIn_9 (by decide) hF (fun hF => ?_) (fun hF => ?_)
      · exact r_sub [] rfl (Jk54  _ hF)
      · refine r_iload_n C dX2_mateIn_12 rfl 1 rfl ?_
        refine r_i2l C dX2_mateIn_13 ?_
        refine r_iload_n C dX2_mateIn_14 rfl 3 rfl ?_
        obtain ⟨r8, h9, hc10, hF⟩ := cl_some hF
        refine r_callSN (As := [.long (Int32.toInt64 a1), .int v5]) C dX2_mateIn_15 V hT cal_X11_holds mn_X2_69 sm_X11_holds (by decide) rfl rfl (Nat.le_of_ble_eq_true rfl) (by decide) (by decide) (S_X11_holds _ _ hc10) ?_
        obtain ⟨k48_11, ek48_11, hF⟩ := jn_some hF
        have Jk48_11 : ∀  (h12 : PM), k48_11 h12 = some X → WP p l e (rmN 0 0 3) s m args below meth c D cy base ρ h0 0 0 4 (MQ below (QR D cy base ρ h0 (some (.int X.1)) X.2) args s 0 0 (fun q => base ≤ q)) 48 [(0, .ref a0), (1, .int a1), (2, .int a2), (3, .int v5)] [] h12 := by
          intro h12 hF
          rw [ek48_11] at hF
          refine r_iinc (v := v5 + 1) C dX2_mateIn_48 3 rfl (congrArg (fun z => v5 + z) (by decide)) (by decide) rfl ?_
          refine r_goto (tgt := 4) C dX2_mateIn_51 (by decide) ?_
          exact r_sub [1, 2, 3, 0] rfl (ih _ _ hF)
        refine r_if_eq (tgt := 48) C dX2_mateIn_18 (by decide) hF (fun hF => ?_) (fun hF => ?_)
        · exact Jk48_11  _ hF
        · refine r_aload_n C dX2_mateIn_21 rfl 0 rfl ?_
          refine r_iload_n C dX2_mateIn_22 rfl 2 rfl ?_
          refine r_iload_n C dX2_mateIn_23 rfl 3 rfl ?_
          obtain ⟨ht, hF⟩ := tst_some hF
          obtain ⟨r14, h15, hc16, hF⟩ := cl_some hF
          refine r_callV (As := [.int a2, .int v5]) C dX2_mateIn_24 V hT cal_X2_isPair cls_3 ml_X2_73 im_X2_isPair se_X2_isPair ht (by decide) rfl rfl (Nat.le_of_ble_eq_true rfl) (by decide) (by decide) (S_X2_isPair _ _ hc16) ?_
          refine r_if_eq (tgt := 48) C dX2_mateIn_27 (by decide) hF (fun hF => ?_) (fun hF => ?_)
          · exact Jk48_11  _ hF
          · refine r_aload_n C dX2_mateIn_30 rfl 0 rfl ?_
            refine r_iload_n C dX2_mateIn_31 rfl 1 rfl ?_
            refine r_iload_n C dX2_mateIn_32 rfl 2 rfl ?_
            refine r_iload_n C dX2_mateIn_33 rfl 3 rfl ?_
            obtain ⟨ht, hF⟩ := tst_some hF
            obtain ⟨r17, h18, hc19, hF⟩ := cl_some hF
            refine r_callV (As := [.int a1, .int a2, .int v5]) C dX2_mateIn_34 V hT cal_X2_withPair cls_3 ml_X2_77 im_X2_withPair se_X2_withPair ht (by decide) rfl rfl (Nat.le_of_ble_eq_true rfl) (by decide) (by decide) (S_X2_withPair _ _ hc19) ?_
            refine r_aload_n C dX2_mateIn_37 rfl 0 rfl ?_
            refine k_gR C dX2_mateIn_38 fd_X2_18 (by decide) hF (fun x20 hF => ?_)
            refine r_iload_n C dX2_mateIn_41 rfl 1 rfl ?_
            refine k_aI C dX2_mateIn_42 hF (fun x21 hF => ?_)
            refine r_icmp_ne (tgt := 48) C dX2_mateIn_43 (by decide) hF (fun hF => ?_) (fun hF => ?_)
            · exact Jk48_11  _ hF
            · exact r_sub [3] rfl (Jk46 _ _ hF)
  exact r_sub [1, 2, 3, 0] rfl (L4 _ _ _ hF)
def F_X2_pairUp_L53 (c0 : Nat) (c1 : Nat) (k140 : Int32 → PM → Option (Int32 × PM)) : Nat → Int32 → Int32 → Int32 → PM → Option (Int32 × PM)
  | 0, _, _, _, _ => none
  | fu + 1, v11, v12, v13, h14 => gI h14 c0 3 3 fun x15 => if x15 ≤ v13 then (k140 v11 h14) else (if v12 = 0 then (k140 v11 h14) else (cl (F_X11_lowestBit (Int32.toInt64 v12) h14) fun r16 h17 => tst h17 c0 3 (cl (F_X2_mateIn c0 v12 r16 h17) fun r19 h20 => lt_ (v12 &&& (((1 : Int32) <<< (r16 &&& 31)) ^^^ (-1))) fun x22 => jn (fun (v23 : Int32) (v24 : Int32) (h25 : PM) => F_X2_pairUp_L53 c0 c1 k140 fu v23 v24 (v13 + 1) h25) fun k134 => if r19 = (-1) then (k134 v11 x22 h20) else (lt_ (x22 &&& (((1 : Int32) <<< (r19 &&& 31)) ^^^ (-1))) fun x27 => gR h20 c0 3 0 fun x28 => aI h20 x28 r16 fun x29 => gR h20 c0 3 0 fun x30 => aI h20 x30 r19 fun x31 => cl (F_X2_join c1 x29 x31 h20) fun r32 h33 => k134 (v11 + 1) x27 h33))))
def F_X2_pairUp_L23 (c0 : Nat) (c1 : Nat) (c2 : Int32) (k45 : PM → Option (Int32 × PM)) : Nat → Int32 → PM → Option (Int32 × PM)
  | 0, _, _ => none
  | fu + 1, v37, h38 => if c2 < v37 then (k45 h38) else (gR h38 c0 3 2 fun x39 => tst h38 c0 3 (cl (F_X2_bestOf c0 v37 h38) fun r40 h41 => sI h41 x39 v37 r40 fun h43 => F_X2_pairUp_L23 c0 c1 c2 k45 fu (v37 + 1) h43))
def F_X2_pairUp (a0 : Nat) (a1 : Nat) (h0 : PM) : Option (Int32 × PM) := tst h0 a0 3 (cl (F_X2_collect a0 a1 h0) fun r1 h2 => gI h2 a0 3 3 fun x4 => lt_ (((1 : Int32) <<< (x4 &&& 31)) - 1) fun x5 => gR h2 a0 3 2 fun x6 => sI h2 x6 0 0 fun h7 => jn (fun  (h8 : PM) => jn (fun (v9 : Int32) (h10 : PM) => some (v9, h10)) fun k140 => F_X2_pairUp_L53 a0 a1 k140 LF 0 x5 0 h8) fun k45 => F_X2_pairUp_L23 a0 a1 x5 k45 LF 1 h7)
set_option maxRecDepth 100000 in
set_option maxHeartbeats 4000000 in
theorem S_X2_pairUp {a0 : Nat} {a1 : Nat} {h0 : PM} (r : Int32) (h' : PM) (hF : F_X2_pairUp a0 a1 h0 = some (r, h')) : CN yX2_pairUp cX2_pairUp 8 (some .int) 0 0 4 [.ref a0, .ref a1] h0 (some (.int r)) h' := by
  obtain ⟨X, eX⟩ : ∃ X, X = (r, h') := ⟨_, rfl⟩
  rw [← eX] at hF
  have e1 : r = X.1 := by rw [eX]
  have e2 : h' = X.2 := by rw [eX]
  rw [e1, e2]
  clear eX e1 e2
  unfold F_X2_pairUp at hF
  refine CN_of (by decide) (fun ρ => Nat.le_of_ble_eq_true rfl) rfl ?_
  intro p l e s m args below meth c D cy base ρ hT C V hr hnm
  refine r_aload_n C dX2_pairUp_0 rfl 0 rfl ?_
  refine r_aload_n C dX2_pairUp_1 rfl 1 rfl ?_
  obtain ⟨ht, hF⟩ := tst_some hF
  obtain ⟨r1, h2, hc3, hF⟩ := cl_some hF
  refine r_callV (As := [.ref a1]) C dX2_pairUp_2 V hT cal_X2_collect cls_3 ml_X2_25 im_X2_collect se_X2_collect ht (by decide) rfl rfl (Nat.le_of_ble_eq_true rfl) (by decide) (by decide) (S_X2_collect _ _ hc3) ?_
  refine r_iconst (v := 1) C dX2_pairUp_5 (by decide) ?_
  refine r_aload_n C dX2_pairUp_6 rfl 0 rfl ?_
  refine k_gI C dX2_pairUp_7 fd_X2_21 (by decide) hF (fun x4 hF => ?_)
  refine r_ishl C dX2_pairUp_10 ?_
  refine r_iconst (v := 1) C dX2_pairUp_11 (by decide) ?_
  refine r_isub C dX2_pairUp_12 ?_
  refine k_lti hF (fun x5 hF => ?_)
  refine r_istore_n C dX2_pairUp_13 rfl (by decide) rfl ?_
  refine r_aload_n C dX2_pairUp_14 rfl 1 rfl ?_
  refine k_gR C dX2_pairUp_15 fd_X2_18 (by decide) hF (fun x6 hF => ?_)
  refine r_iconst (v := 0) C dX2_pairUp_18 (by decide) ?_
  refine r_iconst (v := 0) C dX2_pairUp_19 (by decide) ?_
  refine k_sI C dX2_pairUp_20 hF (fun h7 hF => ?_)
  refine r_iconst (v := 1) C dX2_pairUp_21 (by decide) ?_
  refine r_istore_n C dX2_pairUp_22 rfl (by decide) rfl ?_
  obtain ⟨k45, ek45, hF⟩ := jn_some hF
  have Jk45 : ∀  (h8 : PM), k45 h8 = some X → WP p l e (rmN 0 0 4) s m args below meth c D cy base ρ h0 0 0 8 (MQ below (QR D cy base ρ h0 (some (.int X.1)) X.2) args s 0 0 (fun q => base ≤ q)) 45 [(0, .ref a0), (1, .ref a1), (2, .int x5)] [] h8 := by
    intro h8 hF
    rw [ek45] at hF
    refine r_iconst (v := 0) C dX2_pairUp_45 (by decide) ?_
    refine r_istore_n C dX2_pairUp_46 rfl (by decide) rfl ?_
    refine r_iload_n C dX2_pairUp_47 rfl 3 rfl ?_
    refine r_istore C dX2_pairUp_48 (by decide) rfl ?_
    refine r_iconst (v := 0) C dX2_pairUp_50 (by decide) ?_
    refine r_istore C dX2_pairUp_51 (by decide) rfl ?_
    obtain ⟨k140, ek140, hF⟩ := jn_some hF
    have Jk140 : ∀ (v9 : Int32) (h10 : PM), k140 v9 h10 = some X → WP p l e (rmN 0 0 4) s m args below meth c D cy base ρ h0 0 0 8 (MQ below (QR D cy base ρ h0 (some (.int X.1)) X.2) args s 0 0 (fun q => base ≤ q)) 140 [(3, .int v9)] [] h10 := by
      intro v9 h10 hF
      rw [ek140] at hF
      refine r_iload_n C dX2_pairUp_140 rfl 0 rfl ?_
      exact k_iret C dX2_pairUp_141 hr (by decide) (by decide) hF
    have L53 : ∀ (fu : Nat) (v11 : Int32) (v12 : Int32) (v13 : Int32) (h14 : PM), F_X2_pairUp_L53 a0 a1 k140 fu v11 v12 v13 h14 = some X → WP p l e (rmN 0 0 4) s m args below meth c D cy base ρ h0 0 0 8 (MQ below (QR D cy base ρ h0 (some (.int X.1)) X.2) args s 0 0 (fun q => base ≤ q)) 53 [(0, .ref a0), (1, .ref a1), (3, .int v11), (4, .int v12), (5, .int v13)] [] h14 := by
      intro fu
      induction fu with
      | zero => intro v11 v12 v13 h14 hF; rw [F_X2_pairUp_L53.eq_1] at hF; cases hF
      | succ fu ih =>
        intro v11 v12 v13 h14 hF
        rw [F_X2_pairUp_L53.eq_2] at hF
        refine r_iload C dX2_pairUp_53 4 rfl ?_
        refine r_aload_n C dX2_pairUp_55 rfl 0 rfl ?_
        refine k_gI C dX2_pairUp_56 fd_X2_21 (by decide) hF (fun x15 hF => ?_)
        refine r_icmp_ge (tgt := 140) C dX2_pairUp_59 (by decide) hF (fun hF => ?_) (fun hF => ?_)
        · exact r_sub [2] rfl (Jk140 _ _ hF)
        · refine r_iload C dX2_pairUp_62 3 rfl ?_
          refine r_if_eq (tgt := 140) C dX2_pairUp_64 (by decide) hF (fun hF => ?_) (fun hF => ?_)
          · exact r_sub [2] rfl (Jk140 _ _ hF)
          · refine r_iload C dX2_pairUp_67 3 rfl ?_
            refine r_i2l C dX2_pairUp_69 ?_
            obtain ⟨r16, h17, hc18, hF⟩ := cl_some hF
            refine r_callSN (As := [.long (Int32.toInt64 v12)]) C dX2_pairUp_70 V hT cal_X11_lowestBit mn_X2_33 sm_X11_lowestBit (by decide) rfl rfl (Nat.le_of_ble_eq_true rfl) (by decide) (by decide) (S_X11_lowestBit _ _ hc18) ?_
            refine r_istore C dX2_pairUp_73 (by decide) rfl ?_
            refine r_aload_n C dX2_pairUp_75 rfl 1 rfl ?_
            refine r_iload C dX2_pairUp_76 4 rfl ?_
            refine r_iload C dX2_pairUp_78 0 rfl ?_
            obtain ⟨ht, hF⟩ := tst_some hF
            obtain ⟨r19, h20, hc21, hF⟩ := cl_some hF
            refine r_callV (As := [.int v12, .int r16]) C dX2_pairUp_80 V hT cal_X2_mateIn cls_3 ml_X2_37 im_X2_mateIn se_X2_mateIn ht (by decide) rfl rfl (Nat.le_of_ble_eq_true rfl) (by decide) (by decide) (S_X2_mateIn _ _ hc21) ?_
            refine r_istore C dX2_pairUp_83 (by decide) rfl ?_
            refine r_iload C dX2_pairUp_85 5 rfl ?_
            refine r_iconst (v := 1) C dX2_pairUp_87 (by decide) ?_
            refine r_iload C dX2_pairUp_88 1 rfl ?_
            refine r_ishl C dX2_pairUp_90 ?_
            refine r_iconst (v := (-1)) C dX2_pairUp_91 (by decide) ?_
            refine r_ixor C dX2_pairUp_92 ?_
            refine r_iand C dX2_pairUp_93 ?_
            refine k_lti hF (fun x22 hF => ?_)
            refine r_istore C dX2_pairUp_94 (by decide) rfl ?_
            refine r_iload C dX2_pairUp_96 1 rfl ?_
            refine r_iconst (v := (-1)) C dX2_pairUp_98 (by decide) ?_
            obtain ⟨k134_25, ek134_25, hF⟩ := jn_some hF
            have Jk134_25 : ∀ (v23 : Int32) (v24 : Int32) (h26 : PM), k134_25 v23 v24 h26 = some X → WP p l e (rmN 0 0 4) s m args below meth c D cy base ρ h0 0 0 8 (MQ below (QR D cy base ρ h0 (some (.int X.1)) X.2) args s 0 0 (fun q => base ≤ q)) 134 [(0, .ref a0), (1, .ref a1), (3, .int v23), (4, .int v24), (5, .int v13)] [] h26 := by
              intro v23 v24 h26 hF
              rw [ek134_25] at hF
              refine r_iinc (v := v13 + 1) C dX2_pairUp_134 4 rfl (congrArg (fun z => v13 + z) (by decide)) (by decide) rfl ?_
              refine r_goto (tgt := 53) C dX2_pairUp_137 (by decide) ?_
              exact r_sub [1, 2, 3, 4, 0] rfl (ih _ _ _ _ hF)
            refine r_icmp_eq (tgt := 134) C dX2_pairUp_99 (by decide) hF (fun hF => ?_) (fun hF => ?_)
            · exact r_sub [3, 4, 5, 0, 6] rfl (Jk134_25 _ _ _ hF)
            · refine r_iload C dX2_pairUp_102 0 rfl ?_
              refine r_iconst (v := 1) C dX2_pairUp_104 (by decide) ?_
              refine r_iload C dX2_pairUp_105 1 rfl ?_
              refine r_ishl C dX2_pairUp_107 ?_
              refine r_iconst (v := (-1)) C dX2_pairUp_108 (by decide) ?_
              refine r_ixor C dX2_pairUp_109 ?_
              refine r_iand C dX2_pairUp_110 ?_
              refine k_lti hF (fun x28 hF => ?_)
              refine r_istore C dX2_pairUp_111 (by decide) rfl ?_
              refine r_aload_n C dX2_pairUp_113 rfl 4 rfl ?_
              refine r_aload_n C dX2_pairUp_114 rfl 3 rfl ?_
              refine k_gR C dX2_pairUp_115 fd_X2_9 (by decide) hF (fun x29 hF => ?_)
              refine r_iload C dX2_pairUp_118 2 rfl ?_
              refine k_aI C dX2_pairUp_120 hF (fun x30 hF => ?_)
              refine r_aload_n C dX2_pairUp_121 rfl 3 rfl ?_
              refine k_gR C dX2_pairUp_122 fd_X2_9 (by decide) hF (fun x31 hF => ?_)
              refine r_iload C dX2_pairUp_125 1 rfl ?_
              refine k_aI C dX2_pairUp_127 hF (fun x32 hF => ?_)
              obtain ⟨r33, h34, hc35, hF⟩ := cl_some hF
              refine r_callS (As := [.ref a1, .int x30, .int x32]) C dX2_pairUp_128 V hT cal_X2_join ml_X2_41 sm_X2_join (by decide) rfl rfl (Nat.le_of_ble_eq_true rfl) (by decide) (by decide) (S_X2_join _ _ hc35) ?_
              refine r_iinc (v := v11 + 1) C dX2_pairUp_131 5 rfl (congrArg (fun z => v11 + z) (by decide)) (by decide) rfl ?_
              exact r_sub [4, 5, 0, 1, 6] rfl (Jk134_25 _ _ _ hF)
    exact r_sub [3, 4, 2, 1, 0] rfl (L53 _ _ _ _ _ hF)
  have L23 : ∀ (fu : Nat) (v37 : Int32) (h38 : PM), F_X2_pairUp_L23 a0 a1 x5 k45 fu v37 h38 = some X → WP p l e (rmN 0 0 4) s m args below meth c D cy base ρ h0 0 0 8 (MQ below (QR D cy base ρ h0 (some (.int X.1)) X.2) args s 0 0 (fun q => base ≤ q)) 23 [(0, .ref a0), (1, .ref a1), (2, .int x5), (3, .int v37)] [] h38 := by
    intro fu
    induction fu with
    | zero => intro v37 h38 hF; rw [F_X2_pairUp_L23.eq_1] at hF; cases hF
    | succ fu ih =>
      intro v37 h38 hF
      rw [F_X2_pairUp_L23.eq_2] at hF
      refine r_iload_n C dX2_pairUp_23 rfl 3 rfl ?_
      refine r_iload_n C dX2_pairUp_24 rfl 2 rfl ?_
      refine r_icmp_gt (tgt := 45) C dX2_pairUp_25 (by decide) hF (fun hF => ?_) (fun hF => ?_)
      · exact r_sub [0, 1, 2] rfl (Jk45  _ hF)
      · refine r_aload_n C dX2_pairUp_28 rfl 0 rfl ?_
        refine k_gR C dX2_pairUp_29 fd_X2_18 (by decide) hF (fun x39 hF => ?_)
        refine r_iload_n C dX2_pairUp_32 rfl 3 rfl ?_
        refine r_aload_n C dX2_pairUp_33 rfl 0 rfl ?_
        refine r_iload_n C dX2_pairUp_34 rfl 3 rfl ?_
        obtain ⟨ht, hF⟩ := tst_some hF
        obtain ⟨r40, h41, hc42, hF⟩ := cl_some hF
        refine r_callV (As := [.int v37]) C dX2_pairUp_35 V hT cal_X2_bestOf cls_3 ml_X2_29 im_X2_bestOf se_X2_bestOf ht (by decide) rfl rfl (Nat.le_of_ble_eq_true rfl) (by decide) (by decide) (S_X2_bestOf _ _ hc42) ?_
        refine k_sI C dX2_pairUp_38 hF (fun h43 hF => ?_)
        refine r_iinc (v := v37 + 1) C dX2_pairUp_39 3 rfl (congrArg (fun z => v37 + z) (by decide)) (by decide) rfl ?_
        refine r_goto (tgt := 23) C dX2_pairUp_42 (by decide) ?_
        exact r_sub [1, 2, 3, 0] rfl (ih _ _ hF)
  exact r_sub [2, 3, 1, 0] rfl (L23 _ _ _ hF)
def F_X3_block_L17 (c3 : Int32) (c4 : Int64) (k42 : Int64 → PM → Option (Int64 × PM)) : Nat → Int64 → Int32 → PM → Option (Int64 × PM)
  | 0, _, _, _ => none
  | fu + 1, v4, v5, h6 => if c3 < v5 then (k42 v4 h6) else (lt_ (v4 ||| (c4 <<< ((Int32.toInt64 (6 * v5)) &&& 63))) fun x7 => F_X3_block_L17 c3 c4 k42 fu x7 (v5 + 1) h6)
def F_X3_block (a0 : Int32) (a1 : Int32) (a2 : Int32) (a3 : Int32) (h0 : PM) : Option (Int64 × PM) := lt_ (((1 : Int64) <<< ((Int32.toInt64 (a1 + 1)) &&& 63)) - ((1 : Int64) <<< ((Int32.toInt64 a0) &&& 63))) fun x1 => jn (fun (v2 : Int64) (h3 : PM) => some (v2, h3)) fun k42 => F_X3_block_L17 a3 x1 k42 LF 0 a2 h0
set_option maxRecDepth 100000 in
set_option maxHeartbeats 4000000 in
theorem S_X3_block {a0 : Int32} {a1 : Int32} {a2 : Int32} {a3 : Int32} {h0 : PM} (r : Int64) (h' : PM) (hF : F_X3_block a0 a1 a2 a3 h0 = some (r, h')) : CN yX3_block cX3_block 9 (some .long) 0 0 0 [.int a0, .int a1, .int a2, .int a3] h0 (some (.long r)) h' := by
  obtain ⟨X, eX⟩ : ∃ X, X = (r, h') := ⟨_, rfl⟩
  rw [← eX] at hF
  have e1 : r = X.1 := by rw [eX]
  have e2 : h' = X.2 := by rw [eX]
  rw [e1, e2]
  clear eX e1 e2
  unfold F_X3_block at hF
  refine CN_of (by decide) (fun ρ => Nat.le_of_ble_eq_true rfl) rfl ?_
  intro p l e s m args below meth c D cy base ρ hT C V hr hnm
  refine r_lconst (v := 1) C dX3_block_0 (by decide) ?_
  refine r_iload_n C dX3_block_1 rfl 1 rfl ?_
  refine r_iconst (v := 1) C dX3_block_2 (by decide) ?_
  refine r_iadd C dX3_block_3 ?_
  refine r_lshl C dX3_block_4 ?_
  refine r_lconst (v := 1) C dX3_block_5 (by decide) ?_
  refine r_iload_n C dX3_block_6 rfl 0 rfl ?_
  refine r_lshl C dX3_block_7 ?_
  refine r_lsub C dX3_block_8 ?_
  refine k_ltl hF (fun x1 hF => ?_)
  refine r_lstore C dX3_block_9 (by decide) rfl ?_
  refine r_lconst (v := 0) C dX3_block_11 (by decide) ?_
  refine r_lstore C dX3_block_12 (by decide) rfl ?_
  refine r_iload_n C dX3_block_14 rfl 4 rfl ?_
  refine r_istore C dX3_block_15 (by decide) rfl ?_
  obtain ⟨k42, ek42, hF⟩ := jn_some hF
  have Jk42 : ∀ (v2 : Int64) (h3 : PM), k42 v2 h3 = some X → WP p l e (rmN 0 0 0) s m args below meth c D cy base ρ h0 0 0 9 (MQ below (QR D cy base ρ h0 (some (.long X.1)) X.2) args s 0 0 (fun q => base ≤ q)) 42 [(6, .long v2)] [] h3 := by
    intro v2 h3 hF
    rw [ek42] at hF
    refine r_lload C dX3_block_42 0 rfl ?_
    exact k_lret C dX3_block_44 hr (by decide) (by decide) hF
  have L17 : ∀ (fu : Nat) (v4 : Int64) (v5 : Int32) (h6 : PM), F_X3_block_L17 a3 x1 k42 fu v4 v5 h6 = some X → WP p l e (rmN 0 0 0) s m args below meth c D cy base ρ h0 0 0 9 (MQ below (QR D cy base ρ h0 (some (.long X.1)) X.2) args s 0 0 (fun q => base ≤ q)) 17 [(3, .int a3), (4, .long x1), (6, .long v4), (8, .int v5)] [] h6 := by
    intro fu
    induction fu with
    | zero => intro v4 v5 h6 hF; rw [F_X3_block_L17.eq_1] at hF; cases hF
    | succ fu ih =>
      intro v4 v5 h6 hF
      rw [F_X3_block_L17.eq_2] at hF
      refine r_iload C dX3_block_17 3 rfl ?_
      refine r_iload_n C dX3_block_19 rfl 0 rfl ?_
      refine r_icmp_gt (tgt := 42) C dX3_block_20 (by decide) hF (fun hF => ?_) (fun hF => ?_)
      · exact r_sub [2] rfl (Jk42 _ _ hF)
      · refine r_lload C dX3_block_23 2 rfl ?_
        refine r_lload C dX3_block_25 1 rfl ?_
        refine r_bipush (v := 6) C dX3_block_27 (by decide) ?_
        refine r_iload C dX3_block_29 3 rfl ?_
        refine r_imul C dX3_block_31 ?_
        refine r_lshl C dX3_block_32 ?_
        refine r_lor C dX3_block_33 ?_
        refine k_ltl hF (fun x7 hF => ?_)
        refine r_lstore C dX3_block_34 (by decide) rfl ?_
        refine r_iinc (v := v5 + 1) C dX3_block_36 3 rfl (congrArg (fun z => v5 + z) (by decide)) (by decide) rfl ?_
        refine r_goto (tgt := 17) C dX3_block_39 (by decide) ?_
        exact r_sub [2, 3, 1, 0] rfl (ih _ _ _ hF)
  exact r_sub [6, 2, 1, 0] rfl (L17 _ _ _ _ hF)
def F_X3_layBlock_L22 (c0 : Nat) (c3 : Int32) (c4 : Int32) (c5 : Int64) (k55 : PM → Option (Unit × PM)) : Nat → Int32 → PM → Option (Unit × PM)
  | 0, _, _ => none
  | fu + 1, v5, h6 => if c4 ≤ v5 then (k55 h6) else (if 6 ≤ (c3 + v5) then (k55 h6) else (aJ h6 c0 (c3 + v5) fun x7 => sJ h6 c0 (c3 + v5) (x7 ||| c5) fun h8 => F_X3_layBlock_L22 c0 c3 c4 c5 k55 fu (v5 + 1) h8))
def F_X3_layBlock (a0 : Nat) (a1 : Int32) (a2 : Int32) (a3 : Int32) (a4 : Int32) (h0 : PM) : Option (Unit × PM) := cl (F_X3_block a1 ((a1 + a4) - 1) a2 ((a2 + a4) - 1) h0) fun r1 h2 => jn (fun  (h4 : PM) => some ((), h4)) fun k55 => F_X3_layBlock_L22 a0 a3 a4 r1 k55 LF 0 h2
set_option maxRecDepth 100000 in
set_option maxHeartbeats 4000000 in
theorem S_X3_layBlock {a0 : Nat} {a1 : Int32} {a2 : Int32} {a3 : Int32} {a4 : Int32} {h0 : PM} (r : Unit) (h' : PM) (hF : F_X3_layBlock a0 a1 a2 a3 a4 h0 = some (r, h')) : CN yX3_layBlock cX3_layBlock 8 none 0 0 1 [.ref a0, .int a1, .int a2, .int a3, .int a4] h0 none h' := by
  obtain ⟨X, eX⟩ : ∃ X, X = (r, h') := ⟨_, rfl⟩
  rw [← eX] at hF
  have e1 : r = X.1 := by rw [eX]
  have e2 : h' = X.2 := by rw [eX]
  rw [e2]
  clear eX e1 e2
  unfold F_X3_layBlock at hF
  refine CN_of (by decide) (fun ρ => Nat.le_of_ble_eq_true rfl) rfl ?_
  intro p l e s m args below meth c D cy base ρ hT C V hr hnm
  refine r_iload_n C dX3_layBlock_0 rfl 1 rfl ?_
  refine r_iload_n C dX3_layBlock_1 rfl 1 rfl ?_
  refine r_iload C dX3_layBlock_2 4 rfl ?_
  refine r_iadd C dX3_layBlock_4 ?_
  refine r_iconst (v := 1) C dX3_layBlock_5 (by decide) ?_
  refine r_isub C dX3_layBlock_6 ?_
  refine r_iload_n C dX3_layBlock_7 rfl 2 rfl ?_
  refine r_iload_n C dX3_layBlock_8 rfl 2 rfl ?_
  refine r_iload C dX3_layBlock_9 4 rfl ?_
  refine r_iadd C dX3_layBlock_11 ?_
  refine r_iconst (v := 1) C dX3_layBlock_12 (by decide) ?_
  refine r_isub C dX3_layBlock_13 ?_
  obtain ⟨r1, h2, hc3, hF⟩ := cl_some hF
  refine r_callS (As := [.int a1, .int ((a1 + a4) - 1), .int a2, .int ((a2 + a4) - 1)]) C dX3_layBlock_14 V hT cal_X3_block ml_X3_78 sm_X3_block (by decide) rfl rfl (Nat.le_of_ble_eq_true rfl) (by decide) (by decide) (S_X3_block _ _ hc3) ?_
  refine r_lstore C dX3_layBlock_17 (by decide) rfl ?_
  refine r_iconst (v := 0) C dX3_layBlock_19 (by decide) ?_
  refine r_istore C dX3_layBlock_20 (by decide) rfl ?_
  obtain ⟨k55, ek55, hF⟩ := jn_some hF
  have Jk55 : ∀  (h4 : PM), k55 h4 = some X → WP p l e (rmN 0 0 1) s m args below meth c D cy base ρ h0 0 0 8 (MQ below (QR D cy base ρ h0 none X.2) args s 0 0 (fun q => base ≤ q)) 55 [] [] h4 := by
    intro h4 hF
    rw [ek55] at hF
    exact k_vret C dX3_layBlock_55 hr (by decide) (by decide) hF
  have L22 : ∀ (fu : Nat) (v5 : Int32) (h6 : PM), F_X3_layBlock_L22 a0 a3 a4 r1 k55 fu v5 h6 = some X → WP p l e (rmN 0 0 1) s m args below meth c D cy base ρ h0 0 0 8 (MQ below (QR D cy base ρ h0 none X.2) args s 0 0 (fun q => base ≤ q)) 22 [(0, .ref a0), (3, .int a3), (4, .int a4), (5, .long r1), (7, .int v5)] [] h6 := by
    intro fu
    induction fu with
    | zero => intro v5 h6 hF; rw [F_X3_layBlock_L22.eq_1] at hF; cases hF
    | succ fu ih =>
      intro v5 h6 hF
      rw [F_X3_layBlock_L22.eq_2] at hF
      refine r_iload C dX3_layBlock_22 4 rfl ?_
      refine r_iload C dX3_layBlock_24 2 rfl ?_
      refine r_icmp_ge (tgt := 55) C dX3_layBlock_26 (by decide) hF (fun hF => ?_) (fun hF => ?_)
      · exact r_sub [] rfl (Jk55  _ hF)
      · refine r_iload_n C dX3_layBlock_29 rfl 1 rfl ?_
        refine r_iload C dX3_layBlock_30 4 rfl ?_
        refine r_iadd C dX3_layBlock_32 ?_
        refine r_bipush (v := 6) C dX3_layBlock_33 (by decide) ?_
        refine r_icmp_ge (tgt := 55) C dX3_layBlock_35 (by decide) hF (fun hF => ?_) (fun hF => ?_)
        · exact r_sub [] rfl (Jk55  _ hF)
        · refine r_aload_n C dX3_layBlock_38 rfl 0 rfl ?_
          refine r_iload_n C dX3_layBlock_39 rfl 1 rfl ?_
          refine r_iload C dX3_layBlock_40 4 rfl ?_
          refine r_iadd C dX3_layBlock_42 ?_
          refine r_dup2 C dX3_layBlock_43 rfl rfl ?_
          refine k_aJ C dX3_layBlock_44 hF (fun x7 hF => ?_)
          refine r_lload C dX3_layBlock_45 3 rfl ?_
          refine r_lor C dX3_layBlock_47 ?_
          refine k_sJ C dX3_layBlock_48 hF (fun h8 hF => ?_)
          refine r_iinc (v := v5 + 1) C dX3_layBlock_49 4 rfl (congrArg (fun z => v5 + z) (by decide)) (by decide) rfl ?_
          refine r_goto (tgt := 22) C dX3_layBlock_52 (by decide) ?_
          exact r_sub [1, 2, 3, 4, 0] rfl (ih _ _ hF)
  exact r_sub [2, 5, 6, 1, 0] rfl (L22 _ _ _ hF)
def F_X3_maskOf (a0 : Int32) (a1 : Int32) (h0 : PM) : Option (Int32 × PM) := some (((a0 - 1) * 6) + a1, h0)
set_option maxRecDepth 100000 in
set_option maxHeartbeats 4000000 in
theorem S_X3_maskOf {a0 : Int32} {a1 : Int32} {h0 : PM} (r : Int32) (h' : PM) (hF : F_X3_maskOf a0 a1 h0 = some (r, h')) : CN yX3_maskOf cX3_maskOf 2 (some .int) 0 0 0 [.int a0, .int a1] h0 (some (.int r)) h' := by
  obtain ⟨X, eX⟩ : ∃ X, X = (r, h') := ⟨_, rfl⟩
  rw [← eX] at hF
  have e1 : r = X.1 := by rw [eX]
  have e2 : h' = X.2 := by rw [eX]
  rw [e1, e2]
  clear eX e1 e2
  unfold F_X3_maskOf at hF
  refine CN_of (by decide) (fun ρ => Nat.le_of_ble_eq_true rfl) rfl ?_
  intro p l e s m args below meth c D cy base ρ hT C V hr hnm
  refine r_iload_n C dX3_maskOf_0 rfl 0 rfl ?_
  refine r_iconst (v := 1) C dX3_maskOf_1 (by decide) ?_
  refine r_isub C dX3_maskOf_2 ?_
  refine r_bipush (v := 6) C dX3_maskOf_3 (by decide) ?_
  refine r_imul C dX3_maskOf_5 ?_
  refine r_iload_n C dX3_maskOf_6 rfl 1 rfl ?_
  refine r_iadd C dX3_maskOf_7 ?_
  exact k_iret C dX3_maskOf_8 hr (by decide) (by decide) hF
def F_X3_turned (a0 : Int32) (a1 : Int32) (a2 : Int32) (a3 : Int32) (h0 : PM) : Option (Int32 × PM) := jn (fun (s1 : Int32) (h2 : PM) => some (s1, h2)) fun k18 => if ¬ a3 = 0 then (if ¬ a3 = 1 then (k18 a2 h0) else (k18 a1 h0)) else (k18 a0 h0)
set_option maxRecDepth 100000 in
set_option maxHeartbeats 4000000 in
theorem S_X3_turned {a0 : Int32} {a1 : Int32} {a2 : Int32} {a3 : Int32} {h0 : PM} (r : Int32) (h' : PM) (hF : F_X3_turned a0 a1 a2 a3 h0 = some (r, h')) : CN yX3_turned cX3_turned 4 (some .int) 0 0 0 [.int a0, .int a1, .int a2, .int a3] h0 (some (.int r)) h' := by
  obtain ⟨X, eX⟩ : ∃ X, X = (r, h') := ⟨_, rfl⟩
  rw [← eX] at hF
  have e1 : r = X.1 := by rw [eX]
  have e2 : h' = X.2 := by rw [eX]
  rw [e1, e2]
  clear eX e1 e2
  unfold F_X3_turned at hF
  refine CN_of (by decide) (fun ρ => Nat.le_of_ble_eq_true rfl) rfl ?_
  intro p l e s m args below meth c D cy base ρ hT C V hr hnm
  refine r_iload_n C dX3_turned_0 rfl 3 rfl ?_
  obtain ⟨k18, ek18, hF⟩ := jn_some hF
  have Jk18 : ∀ (s1 : Int32) (h2 : PM), k18 s1 h2 = some X → WP p l e (rmN 0 0 0) s m args below meth c D cy base ρ h0 0 0 4 (MQ below (QR D cy base ρ h0 (some (.int X.1)) X.2) args s 0 0 (fun q => base ≤ q)) 18 [] [.int s1] h2 := by
    intro s1 h2 hF
    rw [ek18] at hF
    exact k_iret C dX3_turned_18 hr (by decide) (by decide) hF
  refine r_if_ne (tgt := 8) C dX3_turned_1 (by decide) hF (fun hF => ?_) (fun hF => ?_)
  · refine r_iload_n C dX3_turned_8 rfl 3 rfl ?_
    refine r_iconst (v := 1) C dX3_turned_9 (by decide) ?_
    refine r_icmp_ne (tgt := 17) C dX3_turned_10 (by decide) hF (fun hF => ?_) (fun hF => ?_)
    · refine r_iload_n C dX3_turned_17 rfl 2 rfl ?_
      exact r_sub [] rfl (Jk18 _ _ hF)
    · refine r_iload_n C dX3_turned_13 rfl 1 rfl ?_
      refine r_goto (tgt := 18) C dX3_turned_14 (by decide) ?_
      exact r_sub [] rfl (Jk18 _ _ hF)
  · refine r_iload_n C dX3_turned_4 rfl 0 rfl ?_
    refine r_goto (tgt := 18) C dX3_turned_5 (by decide) ?_
    exact r_sub [] rfl (Jk18 _ _ hF)
def F_X3_layCell_L55 (c0 : Nat) (c4 : Int32) (c5 : Int32) (c6 : Int32) (c7 : Int32) (k109 : PM → Option (Unit × PM)) : Nat → Int32 → PM → Option (Unit × PM)
  | 0, _, _ => none
  | fu + 1, v14, h15 => gI h15 c0 4 4 fun x16 => if x16 < v14 then (k109 h15) else (if 6 < v14 then (k109 h15) else (gR h15 c0 4 2 fun x17 => cl (F_X3_maskOf v14 c4 h15) fun r18 h19 => aR h19 x17 r18 fun x21 => cl (F_X3_layBlock x21 (v14 * c5) (v14 * c6) (v14 * c7) v14 h19) fun r22 h23 => F_X3_layCell_L55 c0 c4 c5 c6 c7 k109 fu (v14 + 1) h23))
def F_X3_layCell (a0 : Nat) (a1 : Int32) (a2 : Int32) (a3 : Int32) (a4 : Int32) (h0 : PM) : Option (Unit × PM) := aS h0 1 (3 * a4) fun x1 => cl (F_X3_turned a1 a2 a3 x1 h0) fun r2 h3 => aS h3 1 ((3 * a4) + 1) fun x5 => cl (F_X3_turned a1 a2 a3 x5 h3) fun r6 h7 => aS h7 1 ((3 * a4) + 2) fun x9 => cl (F_X3_turned a1 a2 a3 x9 h7) fun r10 h11 => jn (fun  (h13 : PM) => some ((), h13)) fun k109 => F_X3_layCell_L55 a0 a4 r2 r6 r10 k109 LF 1 h11
set_option maxRecDepth 100000 in
set_option maxHeartbeats 4000000 in
theorem S_X3_layCell {a0 : Nat} {a1 : Int32} {a2 : Int32} {a3 : Int32} {a4 : Int32} {h0 : PM} (r : Unit) (h' : PM) (hF : F_X3_layCell a0 a1 a2 a3 a4 h0 = some (r, h')) : CN yX3_layCell cX3_layCell 9 none 0 0 2 [.ref a0, .int a1, .int a2, .int a3, .int a4] h0 none h' := by
  obtain ⟨X, eX⟩ : ∃ X, X = (r, h') := ⟨_, rfl⟩
  rw [← eX] at hF
  have e1 : r = X.1 := by rw [eX]
  have e2 : h' = X.2 := by rw [eX]
  rw [e2]
  clear eX e1 e2
  unfold F_X3_layCell at hF
  refine CN_of (by decide) (fun ρ => Nat.le_of_ble_eq_true rfl) rfl ?_
  intro p l e s m args below meth c D cy base ρ hT C V hr hnm
  refine r_iload_n C dX3_layCell_0 rfl 1 rfl ?_
  refine r_iload_n C dX3_layCell_1 rfl 2 rfl ?_
  refine r_iload_n C dX3_layCell_2 rfl 3 rfl ?_
  refine r_gsN C V dX3_layCell_3 gn_X3_64 ?_
  refine r_iconst (v := 3) C dX3_layCell_6 (by decide) ?_
  refine r_iload C dX3_layCell_7 4 rfl ?_
  refine r_imul C dX3_layCell_9 ?_
  refine k_aS C dX3_layCell_10 hF (fun x1 hF => ?_)
  obtain ⟨r2, h3, hc4, hF⟩ := cl_some hF
  refine r_callS (As := [.int a1, .int a2, .int a3, .int x1]) C dX3_layCell_11 V hT cal_X3_turned ml_X3_67 sm_X3_turned (by decide) rfl rfl (Nat.le_of_ble_eq_true rfl) (by decide) (by decide) (S_X3_turned _ _ hc4) ?_
  refine r_istore C dX3_layCell_14 (by decide) rfl ?_
  refine r_iload_n C dX3_layCell_16 rfl 2 rfl ?_
  refine r_iload_n C dX3_layCell_17 rfl 3 rfl ?_
  refine r_iload_n C dX3_layCell_18 rfl 4 rfl ?_
  refine r_gsN C V dX3_layCell_19 gn_X3_64 ?_
  refine r_iconst (v := 3) C dX3_layCell_22 (by decide) ?_
  refine r_iload C dX3_layCell_23 5 rfl ?_
  refine r_imul C dX3_layCell_25 ?_
  refine r_iconst (v := 1) C dX3_layCell_26 (by decide) ?_
  refine r_iadd C dX3_layCell_27 ?_
  refine k_aS C dX3_layCell_28 hF (fun x5 hF => ?_)
  obtain ⟨r6, h7, hc8, hF⟩ := cl_some hF
  refine r_callS (As := [.int a1, .int a2, .int a3, .int x5]) C dX3_layCell_29 V hT cal_X3_turned ml_X3_67 sm_X3_turned (by decide) rfl rfl (Nat.le_of_ble_eq_true rfl) (by decide) (by decide) (S_X3_turned _ _ hc8) ?_
  refine r_istore C dX3_layCell_32 (by decide) rfl ?_
  refine r_iload_n C dX3_layCell_34 rfl 3 rfl ?_
  refine r_iload_n C dX3_layCell_35 rfl 4 rfl ?_
  refine r_iload_n C dX3_layCell_36 rfl 5 rfl ?_
  refine r_gsN C V dX3_layCell_37 gn_X3_64 ?_
  refine r_iconst (v := 3) C dX3_layCell_40 (by decide) ?_
  refine r_iload C dX3_layCell_41 6 rfl ?_
  refine r_imul C dX3_layCell_43 ?_
  refine r_iconst (v := 2) C dX3_layCell_44 (by decide) ?_
  refine r_iadd C dX3_layCell_45 ?_
  refine k_aS C dX3_layCell_46 hF (fun x9 hF => ?_)
  obtain ⟨r10, h11, hc12, hF⟩ := cl_some hF
  refine r_callS (As := [.int a1, .int a2, .int a3, .int x9]) C dX3_layCell_47 V hT cal_X3_turned ml_X3_67 sm_X3_turned (by decide) rfl rfl (Nat.le_of_ble_eq_true rfl) (by decide) (by decide) (S_X3_turned _ _ hc12) ?_
  refine r_istore C dX3_layCell_50 (by decide) rfl ?_
  refine r_iconst (v := 1) C dX3_layCell_52 (by decide) ?_
  refine r_istore C dX3_layCell_53 (by decide) rfl ?_
  obtain ⟨k109, ek109, hF⟩ := jn_some hF
  have Jk109 : ∀  (h13 : PM), k109 h13 = some X → WP p l e (rmN 0 0 2) s m args below meth c D cy base ρ h0 0 0 9 (MQ below (QR D cy base ρ h0 none X.2) args s 0 0 (fun q => base ≤ q)) 109 [] [] h13 := by
    intro h13 hF
    rw [ek109] at hF
    exact k_vret C dX3_layCell_109 hr (by decide) (by decide) hF
  have L55 : ∀ (fu : Nat) (v14 : Int32) (h15 : PM), F_X3_layCell_L55 a0 a4 r2 r6 r10 k109 fu v14 h15 = some X → WP p l e (rmN 0 0 2) s m args below meth c D cy base ρ h0 0 0 9 (MQ below (QR D cy base ρ h0 none X.2) args s 0 0 (fun q => base ≤ q)) 55 [(0, .ref a0), (4, .int a4), (5, .int r2), (6, .int r6), (7, .int r10), (8, .int v14)] [] h15 := by
    intro fu
    induction fu with
    | zero => intro v14 h15 hF; rw [F_X3_layCell_L55.eq_1] at hF; cases hF
    | succ fu ih =>
      intro v14 h15 hF
      rw [F_X3_layCell_L55.eq_2] at hF
      refine r_iload C dX3_layCell_55 5 rfl ?_
      refine r_aload_n C dX3_layCell_57 rfl 0 rfl ?_
      refine k_gI C dX3_layCell_58 fd_X3_53 (by decide) hF (fun x16 hF => ?_)
      refine r_icmp_gt (tgt := 109) C dX3_layCell_61 (by decide) hF (fun hF => ?_) (fun hF => ?_)
      · exact r_sub [] rfl (Jk109  _ hF)
      · refine r_iload C dX3_layCell_64 5 rfl ?_
        refine r_bipush (v := 6) C dX3_layCell_66 (by decide) ?_
        refine r_icmp_gt (tgt := 109) C dX3_layCell_68 (by decide) hF (fun hF => ?_) (fun hF => ?_)
        · exact r_sub [] rfl (Jk109  _ hF)
        · refine r_aload_n C dX3_layCell_71 rfl 0 rfl ?_
          refine k_gR C dX3_layCell_72 fd_X3_20 (by decide) hF (fun x17 hF => ?_)
          refine r_iload C dX3_layCell_75 5 rfl ?_
          refine r_iload C dX3_layCell_77 1 rfl ?_
          obtain ⟨r18, h19, hc20, hF⟩ := cl_some hF
          refine r_callS (As := [.int v14, .int a4]) C dX3_layCell_79 V hT cal_X3_maskOf ml_X3_71 sm_X3_maskOf (by decide) rfl rfl (Nat.le_of_ble_eq_true rfl) (by decide) (by decide) (S_X3_maskOf _ _ hc20) ?_
          refine k_aR C dX3_layCell_82 hF (fun x21 hF => ?_)
          refine r_iload C dX3_layCell_83 5 rfl ?_
          refine r_iload C dX3_layCell_85 2 rfl ?_
          refine r_imul C dX3_layCell_87 ?_
          refine r_iload C dX3_layCell_88 5 rfl ?_
          refine r_iload C dX3_layCell_90 3 rfl ?_
          refine r_imul C dX3_layCell_92 ?_
          refine r_iload C dX3_layCell_93 5 rfl ?_
          refine r_iload C dX3_layCell_95 4 rfl ?_
          refine r_imul C dX3_layCell_97 ?_
          refine r_iload C dX3_layCell_98 5 rfl ?_
          obtain ⟨r22, h23, hc24, hF⟩ := cl_some hF
          refine r_callS (As := [.ref x21, .int (v14 * r2), .int (v14 * r6), .int (v14 * r10), .int v14]) C dX3_layCell_100 V hT cal_X3_layBlock ml_X3_74 sm_X3_layBlock (by decide) rfl rfl (Nat.le_of_ble_eq_true rfl) (by decide) (by decide) (S_X3_layBlock _ _ hc24) ?_
          refine r_iinc (v := v14 + 1) C dX3_layCell_103 5 rfl (congrArg (fun z => v14 + z) (by decide)) (by decide) rfl ?_
          refine r_goto (tgt := 55) C dX3_layCell_106 (by decide) ?_
          exact r_sub [1, 2, 3, 4, 5, 0] rfl (ih _ _ hF)
  exact r_sub [4, 8, 3, 2, 1, 0] rfl (L55 _ _ _ hF)
def F_X3_layLayer_L60 (c0 : Nat) (c1 : Nat) (c2 : Int32) (c3 : Int32) (c4 : Int32) (c5 : Int32) (c6 : Int32) (k89 : PM → Option (Unit × PM)) : Nat → Int32 → PM → Option (Unit × PM)
  | 0, _, _ => none
  | fu + 1, v24, h25 => if 6 ≤ v24 then (k89 h25) else (tst h25 c0 4 (cl (F_X3_layCell c0 (c3 + c6) (c4 + c5) c2 v24 h25) fun r26 h27 => F_X3_layLayer_L60 c0 c1 c2 c3 c4 c5 c6 k89 fu (v24 + 1) h27))
def F_X3_layLayer_L46 (c0 : Nat) (c1 : Nat) (c2 : Int32) (c3 : Int32) (c4 : Int32) (c5 : Int32) (k95 : PM → Option (Unit × PM)) : Nat → Int32 → PM → Option (Unit × PM)
  | 0, _, _ => none
  | fu + 1, v18, h19 => gR h19 c1 10 7 fun x20 => aI h19 x20 c2 fun x21 => if x21 ≤ v18 then (k95 h19) else (jn (fun  (h22 : PM) => F_X3_layLayer_L46 c0 c1 c2 c3 c4 c5 k95 fu (v18 + 1) h22) fun k89 => F_X3_layLayer_L60 c0 c1 c2 c3 c4 c5 v18 k89 LF 0 h19)
def F_X3_layLayer_L32 (c0 : Nat) (c1 : Nat) (c2 : Int32) (c3 : Int32) (c4 : Int32) (k101 : PM → Option (Unit × PM)) : Nat → Int32 → PM → Option (Unit × PM)
  | 0, _, _ => none
  | fu + 1, v12, h13 => gR h13 c1 10 8 fun x14 => aI h13 x14 c2 fun x15 => if x15 ≤ v12 then (k101 h13) else (jn (fun  (h16 : PM) => F_X3_layLayer_L32 c0 c1 c2 c3 c4 k101 fu (v12 + 1) h16) fun k95 => F_X3_layLayer_L46 c0 c1 c2 c3 c4 v12 k95 LF 0 h13)
def F_X3_layLayer (a0 : Nat) (a1 : Nat) (a2 : Int32) (h0 : PM) : Option (Unit × PM) := gR h0 a1 10 5 fun x1 => aI h0 x1 a2 fun x2 => gR h0 a0 4 0 fun x3 => aI h0 x3 0 fun x4 => lt_ (x2 - x4) fun x5 => gR h0 a1 10 6 fun x6 => aI h0 x6 a2 fun x7 => gR h0 a0 4 0 fun x8 => aI h0 x8 1 fun x9 => lt_ (x7 - x9) fun x10 => jn (fun  (h11 : PM) => some ((), h11)) fun k101 => F_X3_layLayer_L32 a0 a1 a2 x5 x10 k101 LF 0 h0
set_option maxRecDepth 100000 in
set_option maxHeartbeats 4000000 in
theorem S_X3_layLayer {a0 : Nat} {a1 : Nat} {a2 : Int32} {h0 : PM} (r : Unit) (h' : PM) (hF : F_X3_layLayer a0 a1 a2 h0 = some (r, h')) : CN yX3_layLayer cX3_layLayer 8 none 0 0 3 [.ref a0, .ref a1, .int a2] h0 none h' := by
  obtain ⟨X, eX⟩ : ∃ X, X = (r, h') := ⟨_, rfl⟩
  rw [← eX] at hF
  have e1 : r = X.1 := by rw [eX]
  have e2 : h' = X.2 := by rw [eX]
  rw [e2]
  clear eX e1 e2
  unfold F_X3_layLayer at hF
  refine CN_of (by decide) (fun ρ => Nat.le_of_ble_eq_true rfl) rfl ?_
  intro p l e s m args below meth c D cy base ρ hT C V hr hnm
  refine r_aload_n C dX3_layLayer_0 rfl 1 rfl ?_
  refine k_gRr C dX3_layLayer_1 fr_X3_29 (by decide) hF (fun x1 hF => ?_)
  refine r_iload_n C dX3_layLayer_4 rfl 2 rfl ?_
  refine k_aI C dX3_layLayer_5 hF (fun x2 hF => ?_)
  refine r_aload_n C dX3_layLayer_6 rfl 0 rfl ?_
  refine k_gR C dX3_layLayer_7 fd_X3_9 (by decide) hF (fun x3 hF => ?_)
  refine r_iconst (v := 0) C dX3_layLayer_10 (by decide) ?_
  refine k_aI C dX3_layLayer_11 hF (fun x4 hF => ?_)
  refine r_isub C dX3_layLayer_12 ?_
  refine k_lti hF (fun x5 hF => ?_)
  refine r_istore_n C dX3_layLayer_13 rfl (by decide) rfl ?_
  refine r_aload_n C dX3_layLayer_14 rfl 2 rfl ?_
  refine k_gRr C dX3_layLayer_15 fr_X3_38 (by decide) hF (fun x6 hF => ?_)
  refine r_iload_n C dX3_layLayer_18 rfl 3 rfl ?_
  refine k_aI C dX3_layLayer_19 hF (fun x7 hF => ?_)
  refine r_aload_n C dX3_layLayer_20 rfl 1 rfl ?_
  refine k_gR C dX3_layLayer_21 fd_X3_9 (by decide) hF (fun x8 hF => ?_)
  refine r_iconst (v := 1) C dX3_layLayer_24 (by decide) ?_
  refine k_aI C dX3_layLayer_25 hF (fun x9 hF => ?_)
  refine r_isub C dX3_layLayer_26 ?_
  refine k_lti hF (fun x10 hF => ?_)
  refine r_istore C dX3_layLayer_27 (by decide) rfl ?_
  refine r_iconst (v := 0) C dX3_layLayer_29 (by decide) ?_
  refine r_istore C dX3_layLayer_30 (by decide) rfl ?_
  obtain ⟨k101, ek101, hF⟩ := jn_some hF
  have Jk101 : ∀  (h11 : PM), k101 h11 = some X → WP p l e (rmN 0 0 3) s m args below meth c D cy base ρ h0 0 0 8 (MQ below (QR D cy base ρ h0 none X.2) args s 0 0 (fun q => base ≤ q)) 101 [] [] h11 := by
    intro h11 hF
    rw [ek101] at hF
    exact k_vret C dX3_layLayer_101 hr (by decide) (by decide) hF
  have L32 : ∀ (fu : Nat) (v12 : Int32) (h13 : PM), F_X3_layLayer_L32 a0 a1 a2 x5 x10 k101 fu v12 h13 = some X → WP p l e (rmN 0 0 3) s m args below meth c D cy base ρ h0 0 0 8 (MQ below (QR D cy base ρ h0 none X.2) args s 0 0 (fun q => base ≤ q)) 32 [(0, .ref a0), (1, .ref a1), (2, .int a2), (3, .int x5), (4, .int x10), (5, .int v12)] [] h13 := by
    intro fu
    induction fu with
    | zero => intro v12 h13 hF; rw [F_X3_layLayer_L32.eq_1] at hF; cases hF
    | succ fu ih =>
      intro v12 h13 hF
      rw [F_X3_layLayer_L32.eq_2] at hF
      refine r_iload C dX3_layLayer_32 5 rfl ?_
      refine r_aload_n C dX3_layLayer_34 rfl 1 rfl ?_
      refine k_gRr C dX3_layLayer_35 fr_X3_47 (by decide) hF (fun x14 hF => ?_)
      refine r_iload_n C dX3_layLayer_38 rfl 2 rfl ?_
      refine k_aI C dX3_layLayer_39 hF (fun x15 hF => ?_)
      refine r_icmp_ge (tgt := 101) C dX3_layLayer_40 (by decide) hF (fun hF => ?_) (fun hF => ?_)
      · exact r_sub [] rfl (Jk101  _ hF)
      · refine r_iconst (v := 0) C dX3_layLayer_43 (by decide) ?_
        refine r_istore C dX3_layLayer_44 (by decide) rfl ?_
        obtain ⟨k95_16, ek95_16, hF⟩ := jn_some hF
        have Jk95_16 : ∀  (h17 : PM), k95_16 h17 = some X → WP p l e (rmN 0 0 3) s m args below meth c D cy base ρ h0 0 0 8 (MQ below (QR D cy base ρ h0 none X.2) args s 0 0 (fun q => base ≤ q)) 95 [(0, .ref a0), (1, .ref a1), (2, .int a2), (3, .int x5), (4, .int x10), (5, .int v12)] [] h17 := by
          intro h17 hF
          rw [ek95_16] at hF
          refine r_iinc (v := v12 + 1) C dX3_layLayer_95 5 rfl (congrArg (fun z => v12 + z) (by decide)) (by decide) rfl ?_
          refine r_goto (tgt := 32) C dX3_layLayer_98 (by decide) ?_
          exact r_sub [1, 2, 3, 4, 5, 0] rfl (ih _ _ hF)
        have L46_33 : ∀ (fu : Nat) (v19 : Int32) (h20 : PM), F_X3_layLayer_L46 a0 a1 a2 x5 x10 v12 k95_16 fu v19 h20 = some X → WP p l e (rmN 0 0 3) s m args below meth c D cy base ρ h0 0 0 8 (MQ below (QR D cy base ρ h0 none X.2) args s 0 0 (fun q => base ≤ q)) 46 [(0, .ref a0), (1, .ref a1), (2, .int a2), (3, .int x5), (4, .int x10), (5, .int v12), (6, .int v19)] [] h20 := by
          intro fu
          induction fu with
          | zero => intro v19 h20 hF; rw [F_X3_layLayer_L46.eq_1] at hF; cases hF
          | succ fu ih =>
            intro v19 h20 hF
            rw [F_X3_layLayer_L46.eq_2] at hF
            refine r_iload C dX3_layLayer_46 6 rfl ?_
            refine r_aload_n C dX3_layLayer_48 rfl 1 rfl ?_
            refine k_gRr C dX3_layLayer_49 fr_X3_41 (by decide) hF (fun x21 hF => ?_)
            refine r_iload_n C dX3_layLayer_52 rfl 2 rfl ?_
            refine k_aI C dX3_layLayer_53 hF (fun x22 hF => ?_)
            refine r_icmp_ge (tgt := 95) C dX3_layLayer_54 (by decide) hF (fun hF => ?_) (fun hF => ?_)
            · exact r_sub [0, 1, 2, 3, 4, 5] rfl (Jk95_16  _ hF)
            · refine r_iconst (v := 0) C dX3_layLayer_57 (by decide) ?_
              refine r_istore C dX3_layLayer_58 (by decide) rfl ?_
              obtain ⟨k89_23, ek89_23, hF⟩ := jn_some hF
              have Jk89_23 : ∀  (h24 : PM), k89_23 h24 = some X → WP p l e (rmN 0 0 3) s m args below meth c D cy base ρ h0 0 0 8 (MQ below (QR D cy base ρ h0 none X.2) args s 0 0 (fun q => base ≤ q)) 89 [(0, .ref a0), (1, .ref a1), (2, .int a2), (3, .int x5), (4, .int x10), (5, .int v12), (6, .int v19)] [] h24 := by
                intro h24 hF
                rw [ek89_23] at hF
                refine r_iinc (v := v19 + 1) C dX3_layLayer_89 6 rfl (congrArg (fun z => v19 + z) (by decide)) (by decide) rfl ?_
                refine r_goto (tgt := 46) C dX3_layLayer_92 (by decide) ?_
                exact r_sub [1, 2, 3, 4, 5, 6, 0] rfl (ih _ _ hF)
              have L60_32 : ∀ (fu : Nat) (v26 : Int32) (h27 : PM), F_X3_layLayer_L60 a0 a1 a2 x5 x10 v12 v19 k89_23 fu v26 h27 = some X → WP p l e (rmN 0 0 3) s m args below meth c D cy base ρ h0 0 0 8 (MQ below (QR D cy base ρ h0 none X.2) args s 0 0 (fun q => base ≤ q)) 60 [(0, .ref a0), (1, .ref a1), (2, .int a2), (3, .int x5), (4, .int x10), (5, .int v12), (6, .int v19), (7, .int v26)] [] h27 := by
                intro fu
                induction fu with
                | zero => intro v26 h27 hF; rw [F_X3_layLayer_L60.eq_1] at hF; cases hF
                | succ fu ih =>
                  intro v26 h27 hF
                  rw [F_X3_layLayer_L60.eq_2] at hF
                  refine r_iload C dX3_layLayer_60 7 rfl ?_
                  refine r_bipush (v := 6) C dX3_layLayer_62 (by decide) ?_
                  refine r_icmp_ge (tgt := 89) C dX3_layLayer_64 (by decide) hF (fun hF => ?_) (fun hF => ?_)
                  · exact r_sub [0, 1, 2, 3, 4, 5, 6] rfl (Jk89_23  _ hF)
                  · refine r_aload_n C dX3_layLayer_67 rfl 0 rfl ?_
                    refine r_iload_n C dX3_layLayer_68 rfl 3 rfl ?_
                    refine r_iload C dX3_layLayer_69 6 rfl ?_
                    refine r_iadd C dX3_layLayer_71 ?_
                    refine r_iload C dX3_layLayer_72 4 rfl ?_
                    refine r_iload C dX3_layLayer_74 5 rfl ?_
                    refine r_iadd C dX3_layLayer_76 ?_
                    refine r_iload_n C dX3_layLayer_77 rfl 2 rfl ?_
                    refine r_iload C dX3_layLayer_78 7 rfl ?_
                    obtain ⟨ht, hF⟩ := tst_some hF
                    obtain ⟨r28, h29, hc30, hF⟩ := cl_some hF
                    refine r_callV (As := [.int (x5 + v19), .int (x10 + v12), .int a2, .int v26]) C dX3_layLayer_80 V hT cal_X3_layCell cls_4 ml_X3_60 im_X3_layCell se_X3_layCell ht (by decide) rfl rfl (Nat.le_of_ble_eq_true rfl) (by decide) (by decide) (S_X3_layCell _ _ hc30) ?_
                    refine r_iinc (v := v26 + 1) C dX3_layLayer_83 7 rfl (congrArg (fun z => v26 + z) (by decide)) (by decide) rfl ?_
                    refine r_goto (tgt := 60) C dX3_layLayer_86 (by decide) ?_
                    exact r_sub [1, 2, 3, 4, 5, 6, 7, 0] rfl (ih _ _ hF)
              exact r_sub [1, 2, 3, 4, 5, 6, 7, 0] rfl (L60_32 _ _ _ hF)
        exact r_sub [1, 2, 3, 4, 5, 6, 0] rfl (L46_33 _ _ _ hF)
  exact r_sub [3, 4, 5, 2, 1, 0] rfl (L32 _ _ _ hF)
def F_X3_init_L268 (c0 : Nat) (c1 : Nat) (k297 : PM → Option (Unit × PM)) : Nat → Int32 → PM → Option (Unit × PM)
  | 0, _, _ => none
  | fu + 1, v36, h37 => gI h37 c1 10 4 fun x38 => if x38 ≤ v36 then (k297 h37) else (if 6 ≤ v36 then (k297 h37) else (tst h37 c0 4 (cl (F_X3_layLayer c0 c1 v36 h37) fun r39 h40 => F_X3_init_L268 c0 c1 k297 fu (v36 + 1) h40)))
def F_X3_init_L56 (c0 : Nat) (c1 : Nat) (k182 : Int32 → Int32 → Int32 → PM → Option (Unit × PM)) : Nat → Int32 → Int32 → Int32 → Int32 → PM → Option (Unit × PM)
  | 0, _, _, _, _, _ => none
  | fu + 1, v43, v44, v45, v46, h47 => gI h47 c1 10 4 fun x48 => if x48 ≤ v46 then (k182 v43 v44 v45 h47) else (if 6 ≤ v46 then (k182 v43 v44 v45 h47) else (gR h47 c0 4 0 fun x49 => gR h47 c0 4 0 fun x50 => aI h47 x50 0 fun x51 => gR h47 c1 10 5 fun x52 => aI h47 x52 v46 fun x53 => sI h47 x49 0 (mn x51 x53) fun h54 => gR h54 c0 4 0 fun x55 => gR h54 c0 4 0 fun x56 => aI h54 x56 1 fun x57 => gR h54 c1 10 6 fun x58 => aI h54 x58 v46 fun x59 => sI h54 x55 1 (mn x57 x59) fun h60 => gR h60 c1 10 5 fun x61 => aI h60 x61 v46 fun x62 => gR h60 c1 10 7 fun x63 => aI h60 x63 v46 fun x64 => lt_ (mx v43 (x62 + x64)) fun x65 => gR h60 c1 10 6 fun x66 => aI h60 x66 v46 fun x67 => gR h60 c1 10 8 fun x68 => aI h60 x68 v46 fun x69 => lt_ (mx v44 (x67 + x69)) fun x70 => gR h60 c1 10 7 fun x71 => aI h60 x71 v46 fun x72 => gR h60 c1 10 8 fun x73 => aI h60 x73 v46 fun x74 => lt_ (v45 + (x72 * x74)) fun x75 => F_X3_init_L56 c0 c1 k182 fu x65 x70 x75 (v46 + 1) h60))
def F_X3_init (a0 : Nat) (a1 : Nat) (h0 : PM) : Option (Unit × PM) := nA h0 ((a0 + 1)) 20 3 fun h1 => pR h1 a0 4 0 ((a0 + 1)) fun h2 => nA h2 ((a0 + 2)) 20 3 fun h3 => pR h3 a0 4 1 ((a0 + 2)) fun h4 => nM h4 ((a0 + 3)) 36 6 fun h5 => pR h5 a0 4 2 ((a0 + 3)) fun h6 => gR h6 a0 4 0 fun x7 => sI h6 x7 0 6 fun h8 => gR h8 a0 4 0 fun x9 => sI h8 x9 1 6 fun h10 => jn (fun (v11 : Int32) (v12 : Int32) (v13 : Int32) (h14 : PM) => gR h14 a0 4 1 fun x15 => gR h14 a0 4 0 fun x16 => aI h14 x16 0 fun x17 => sI h14 x15 0 (v11 - x17) fun h18 => gR h18 a0 4 1 fun x19 => gR h18 a0 4 0 fun x20 => aI h18 x20 1 fun x21 => sI h18 x19 1 (v12 - x21) fun h22 => gR h22 a0 4 1 fun x23 => gI h22 a1 10 4 fun x24 => sI h22 x23 2 x24 fun h25 => pI h25 a0 4 3 v13 fun h26 => gR h26 a0 4 1 fun x27 => aI h26 x27 0 fun x28 => gR h26 a0 4 1 fun x29 => aI h26 x29 1 fun x30 => gR h26 a0 4 1 fun x31 => aI h26 x31 2 fun x32 => lt_ (mx 1 (mx x28 (mx x30 x32))) fun x33 => dv x33 (pI h26 a0 4 4 (6 / x33) fun h34 => jn (fun  (h35 : PM) => some ((), h35)) fun k297 => F_X3_init_L268 a0 a1 k297 LF 0 h34)) fun k182 => F_X3_init_L56 a0 a1 k182 LF 0 0 0 0 h10
set_option maxRecDepth 100000 in
set_option maxHeartbeats 4000000 in
theorem S_X3_init {a0 : Nat} {a1 : Nat} {h0 : PM} (r : Unit) (h' : PM) (hF : F_X3_init a0 a1 h0 = some (r, h')) : CN yX3_init cX3_init 7 none 39 258 4 [.ref a0, .ref a1] h0 none h' := by
  obtain ⟨X, eX⟩ : ∃ X, X = (r, h') := ⟨_, rfl⟩
  rw [← eX] at hF
  have e1 : r = X.1 := by rw [eX]
  have e2 : h' = X.2 := by rw [eX]
  rw [e2]
  clear eX e1 e2
  unfold F_X3_init at hF
  refine CN_of (by decide) (fun ρ => Nat.le_of_ble_eq_true rfl) rfl ?_
  intro p l e s m args below meth c D cy base ρ hT C V hr hnm
  refine r_aload_n C dX3_init_0 rfl 0 rfl ?_
  refine r_objInit C dX3_init_1 ml_X3_3 im_obj cd_obj (by decide) (Nat.le_of_ble_eq_true rfl) ?_
  refine r_aload_n C dX3_init_4 rfl 0 rfl ?_
  refine r_iconst (v := 3) C dX3_init_5 (by decide) ?_
  refine k_newi (N := 3) (a := (a0 + 1)) C dX3_init_6 ac_int (by decide) (by decide) (by decide) hF (fun h1 hF => ?_)
  refine k_pR C dX3_init_8 fd_X3_9 (fun _ => hnm) (by decide) hF (fun h2 hF => ?_)
  refine r_aload_n C dX3_init_11 rfl 0 rfl ?_
  refine r_iconst (v := 3) C dX3_init_12 (by decide) ?_
  refine k_newi (N := 3) (a := (a0 + 2)) C dX3_init_13 ac_int (by decide) (by decide) (by decide) hF (fun h3 hF => ?_)
  refine k_pR C dX3_init_15 fd_X3_15 (fun _ => hnm) (by decide) hF (fun h4 hF => ?_)
  refine r_aload_n C dX3_init_18 rfl 0 rfl ?_
  refine r_bipush (v := 36) C dX3_init_19 (by decide) ?_
  refine r_bipush (v := 6) C dX3_init_21 (by decide) ?_
  refine k_mna (a := (a0 + 3)) C V dX3_init_23 cn_X3_18 ac_long (by decide) (by decide) hF (fun h5 hF => ?_)
  refine k_pR C dX3_init_27 fd_X3_20 (fun _ => hnm) (by decide) hF (fun h6 hF => ?_)
  refine r_iconst (v := 0) C dX3_init_30 (by decide) ?_
  refine r_istore_n C dX3_init_31 rfl (by decide) rfl ?_
  refine r_iconst (v := 0) C dX3_init_32 (by decide) ?_
  refine r_istore_n C dX3_init_33 rfl (by decide) rfl ?_
  refine r_iconst (v := 0) C dX3_init_34 (by decide) ?_
  refine r_istore C dX3_init_35 (by decide) rfl ?_
  refine r_aload_n C dX3_init_37 rfl 3 rfl ?_
  refine k_gR C dX3_init_38 fd_X3_9 (by decide) hF (fun x7 hF => ?_)
  refine r_iconst (v := 0) C dX3_init_41 (by decide) ?_
  refine r_bipush (v := 6) C dX3_init_42 (by decide) ?_
  refine k_sI C dX3_init_44 hF (fun h8 hF => ?_)
  refine r_aload_n C dX3_init_45 rfl 3 rfl ?_
  refine k_gR C dX3_init_46 fd_X3_9 (by decide) hF (fun x9 hF => ?_)
  refine r_iconst (v := 1) C dX3_init_49 (by decide) ?_
  refine r_bipush (v := 6) C dX3_init_50 (by decide) ?_
  refine k_sI C dX3_init_52 hF (fun h10 hF => ?_)
  refine r_iconst (v := 0) C dX3_init_53 (by decide) ?_
  refine r_istore C dX3_init_54 (by decide) rfl ?_
  obtain ⟨k182, ek182, hF⟩ := jn_some hF
  have Jk182 : ∀ (v11 : Int32) (v12 : Int32) (v13 : Int32) (h14 : PM), k182 v11 v12 v13 h14 = some X → WP p l e (rmN 39 258 4) s m args below meth c D cy base ρ h0 39 258 7 (MQ below (QR D cy base ρ h0 none X.2) args s 39 258 (fun q => base ≤ q)) 182 [(0, .ref a0), (1, .ref a1), (2, .int v11), (3, .int v12), (4, .int v13)] [] h14 := by
    intro v11 v12 v13 h14 hF
    rw [ek182] at hF
    refine r_aload_n C dX3_init_182 rfl 0 rfl ?_
    refine k_gR C dX3_init_183 fd_X3_15 (by decide) hF (fun x15 hF => ?_)
    refine r_iconst (v := 0) C dX3_init_186 (by decide) ?_
    refine r_iload_n C dX3_init_187 rfl 2 rfl ?_
    refine r_aload_n C dX3_init_188 rfl 0 rfl ?_
    refine k_gR C dX3_init_189 fd_X3_9 (by decide) hF (fun x16 hF => ?_)
    refine r_iconst (v := 0) C dX3_init_192 (by decide) ?_
    refine k_aI C dX3_init_193 hF (fun x17 hF => ?_)
    refine r_isub C dX3_init_194 ?_
    refine k_sI C dX3_init_195 hF (fun h18 hF => ?_)
    refine r_aload_n C dX3_init_196 rfl 0 rfl ?_
    refine k_gR C dX3_init_197 fd_X3_15 (by decide) hF (fun x19 hF => ?_)
    refine r_iconst (v := 1) C dX3_init_200 (by decide) ?_
    refine r_iload_n C dX3_init_201 rfl 3 rfl ?_
    refine r_aload_n C dX3_init_202 rfl 0 rfl ?_
    refine k_gR C dX3_init_203 fd_X3_9 (by decide) hF (fun x20 hF => ?_)
    refine r_iconst (v := 1) C dX3_init_206 (by decide) ?_
    refine k_aI C dX3_init_207 hF (fun x21 hF => ?_)
    refine r_isub C dX3_init_208 ?_
    refine k_sI C dX3_init_209 hF (fun h22 hF => ?_)
    refine r_aload_n C dX3_init_210 rfl 0 rfl ?_
    refine k_gR C dX3_init_211 fd_X3_15 (by decide) hF (fun x23 hF => ?_)
    refine r_iconst (v := 2) C dX3_init_214 (by decide) ?_
    refine r_aload_n C dX3_init_215 rfl 1 rfl ?_
    refine k_gI C dX3_init_216 fd_X3_23 (by decide) hF (fun x24 hF => ?_)
    refine k_sI C dX3_init_219 hF (fun h25 hF => ?_)
    refine r_aload_n C dX3_init_220 rfl 0 rfl ?_
    refine r_iload C dX3_init_221 4 rfl ?_
    refine k_pI C dX3_init_223 fd_X3_50 (fun _ => hnm) (by decide) hF (fun h26 hF => ?_)
    refine r_iconst (v := 1) C dX3_init_226 (by decide) ?_
    refine r_aload_n C dX3_init_227 rfl 0 rfl ?_
    refine k_gR C dX3_init_228 fd_X3_15 (by decide) hF (fun x27 hF => ?_)
    refine r_iconst (v := 0) C dX3_init_231 (by decide) ?_
    refine k_aI C dX3_init_232 hF (fun x28 hF => ?_)
    refine r_aload_n C dX3_init_233 rfl 0 rfl ?_
    refine k_gR C dX3_init_234 fd_X3_15 (by decide) hF (fun x29 hF => ?_)
    refine r_iconst (v := 1) C dX3_init_237 (by decide) ?_
    refine k_aI C dX3_init_238 hF (fun x30 hF => ?_)
    refine r_aload_n C dX3_init_239 rfl 0 rfl ?_
    refine k_gR C dX3_init_240 fd_X3_15 (by decide) hF (fun x31 hF => ?_)
    refine r_iconst (v := 2) C dX3_init_243 (by decide) ?_
    refine k_aI C dX3_init_244 hF (fun x32 hF => ?_)
    refine r_mmax C dX3_init_245 mm_X3_44 mm_smax mm_i mm_cmax (by decide) (Nat.le_of_ble_eq_true rfl) (by decide) (by decide) ?_
    refine r_mmax C dX3_init_248 mm_X3_44 mm_smax mm_i mm_cmax (by decide) (Nat.le_of_ble_eq_true rfl) (by decide) (by decide) ?_
    refine r_mmax C dX3_init_251 mm_X3_44 mm_smax mm_i mm_cmax (by decide) (Nat.le_of_ble_eq_true rfl) (by decide) (by decide) ?_
    refine k_lti hF (fun x33 hF => ?_)
    refine r_istore C dX3_init_254 (by decide) rfl ?_
    refine r_aload_n C dX3_init_256 rfl 1 rfl ?_
    refine r_bipush (v := 6) C dX3_init_257 (by decide) ?_
    refine r_iload C dX3_init_259 0 rfl ?_
    refine k_idiv C dX3_init_261 hF (fun hF => ?_)
    refine k_pI C dX3_init_262 fd_X3_53 (fun _ => hnm) (by decide) hF (fun h34 hF => ?_)
    refine r_iconst (v := 0) C dX3_init_265 (by decide) ?_
    refine r_istore C dX3_init_266 (by decide) rfl ?_
    obtain ⟨k297, ek297, hF⟩ := jn_some hF
    have Jk297 : ∀  (h35 : PM), k297 h35 = some X → WP p l e (rmN 39 258 4) s m args below meth c D cy base ρ h0 39 258 7 (MQ below (QR D cy base ρ h0 none X.2) args s 39 258 (fun q => base ≤ q)) 297 [] [] h35 := by
      intro h35 hF
      rw [ek297] at hF
      exact k_vret C dX3_init_297 hr (by decide) (by decide) hF
    have L268 : ∀ (fu : Nat) (v36 : Int32) (h37 : PM), F_X3_init_L268 a0 a1 k297 fu v36 h37 = some X → WP p l e (rmN 39 258 4) s m args below meth c D cy base ρ h0 39 258 7 (MQ below (QR D cy base ρ h0 none X.2) args s 39 258 (fun q => base ≤ q)) 268 [(0, .ref a0), (1, .ref a1), (6, .int v36)] [] h37 := by
      intro fu
      induction fu with
      | zero => intro v36 h37 hF; rw [F_X3_init_L268.eq_1] at hF; cases hF
      | succ fu ih =>
        intro v36 h37 hF
        rw [F_X3_init_L268.eq_2] at hF
        refine r_iload C dX3_init_268 2 rfl ?_
        refine r_aload_n C dX3_init_270 rfl 1 rfl ?_
        refine k_gI C dX3_init_271 fd_X3_23 (by decide) hF (fun x38 hF => ?_)
        refine r_icmp_ge (tgt := 297) C dX3_init_274 (by decide) hF (fun hF => ?_) (fun hF => ?_)
        · exact r_sub [] rfl (Jk297  _ hF)
        · refine r_iload C dX3_init_277 2 rfl ?_
          refine r_bipush (v := 6) C dX3_init_279 (by decide) ?_
          refine r_icmp_ge (tgt := 297) C dX3_init_281 (by decide) hF (fun hF => ?_) (fun hF => ?_)
          · exact r_sub [] rfl (Jk297  _ hF)
          · refine r_aload_n C dX3_init_284 rfl 0 rfl ?_
            refine r_aload_n C dX3_init_285 rfl 1 rfl ?_
            refine r_iload C dX3_init_286 2 rfl ?_
            obtain ⟨ht, hF⟩ := tst_some hF
            obtain ⟨r39, h40, hc41, hF⟩ := cl_some hF
            refine r_callV (As := [.ref a1, .int v36]) C dX3_init_288 V hT cal_X3_layLayer cls_4 ml_X3_56 im_X3_layLayer se_X3_layLayer ht (by decide) rfl rfl (Nat.le_of_ble_eq_true rfl) (by decide) (by decide) (S_X3_layLayer _ _ hc41) ?_
            refine r_iinc (v := v36 + 1) C dX3_init_291 2 rfl (congrArg (fun z => v36 + z) (by decide)) (by decide) rfl ?_
            refine r_goto (tgt := 268) C dX3_init_294 (by decide) ?_
            exact r_sub [1, 2, 0] rfl (ih _ _ hF)
    exact r_sub [2, 3, 0] rfl (L268 _ _ _ hF)
  have L56 : ∀ (fu : Nat) (v43 : Int32) (v44 : Int32) (v45 : Int32) (v46 : Int32) (h47 : PM), F_X3_init_L56 a0 a1 k182 fu v43 v44 v45 v46 h47 = some X → WP p l e (rmN 39 258 4) s m args below meth c D cy base ρ h0 39 258 7 (MQ below (QR D cy base ρ h0 none X.2) args s 39 258 (fun q => base ≤ q)) 56 [(0, .ref a0), (1, .ref a1), (2, .int v43), (3, .int v44), (4, .int v45), (5, .int v46)] [] h47 := by
    intro fu
    induction fu with
    | zero => intro v43 v44 v45 v46 h47 hF; rw [F_X3_init_L56.eq_1] at hF; cases hF
    | succ fu ih =>
      intro v43 v44 v45 v46 h47 hF
      rw [F_X3_init_L56.eq_2] at hF
      refine r_iload C dX3_init_56 5 rfl ?_
      refine r_aload_n C dX3_init_58 rfl 1 rfl ?_
      refine k_gI C dX3_init_59 fd_X3_23 (by decide) hF (fun x48 hF => ?_)
      refine r_icmp_ge (tgt := 182) C dX3_init_62 (by decide) hF (fun hF => ?_) (fun hF => ?_)
      · exact r_sub [0, 1, 2, 3, 4] rfl (Jk182 _ _ _ _ hF)
      · refine r_iload C dX3_init_65 5 rfl ?_
        refine r_bipush (v := 6) C dX3_init_67 (by decide) ?_
        refine r_icmp_ge (tgt := 182) C dX3_init_69 (by decide) hF (fun hF => ?_) (fun hF => ?_)
        · exact r_sub [0, 1, 2, 3, 4] rfl (Jk182 _ _ _ _ hF)
        · refine r_aload_n C dX3_init_72 rfl 0 rfl ?_
          refine k_gR C dX3_init_73 fd_X3_9 (by decide) hF (fun x49 hF => ?_)
          refine r_iconst (v := 0) C dX3_init_76 (by decide) ?_
          refine r_aload_n C dX3_init_77 rfl 0 rfl ?_
          refine k_gR C dX3_init_78 fd_X3_9 (by decide) hF (fun x50 hF => ?_)
          refine r_iconst (v := 0) C dX3_init_81 (by decide) ?_
          refine k_aI C dX3_init_82 hF (fun x51 hF => ?_)
          refine r_aload_n C dX3_init_83 rfl 1 rfl ?_
          refine k_gRr C dX3_init_84 fr_X3_29 (by decide) hF (fun x52 hF => ?_)
          refine r_iload C dX3_init_87 5 rfl ?_
          refine k_aI C dX3_init_89 hF (fun x53 hF => ?_)
          refine r_mmin C dX3_init_90 mm_X3_32 mm_smin mm_i mm_cmin (by decide) (Nat.le_of_ble_eq_true rfl) (by decide) (by decide) ?_
          refine k_sI C dX3_init_93 hF (fun h54 hF => ?_)
          refine r_aload_n C dX3_init_94 rfl 0 rfl ?_
          refine k_gR C dX3_init_95 fd_X3_9 (by decide) hF (fun x55 hF => ?_)
          refine r_iconst (v := 1) C dX3_init_98 (by decide) ?_
          refine r_aload_n C dX3_init_99 rfl 0 rfl ?_
          refine k_gR C dX3_init_100 fd_X3_9 (by decide) hF (fun x56 hF => ?_)
          refine r_iconst (v := 1) C dX3_init_103 (by decide) ?_
          refine k_aI C dX3_init_104 hF (fun x57 hF => ?_)
          refine r_aload_n C dX3_init_105 rfl 1 rfl ?_
          refine k_gRr C dX3_init_106 fr_X3_38 (by decide) hF (fun x58 hF => ?_)
          refine r_iload C dX3_init_109 5 rfl ?_
          refine k_aI C dX3_init_111 hF (fun x59 hF => ?_)
          refine r_mmin C dX3_init_112 mm_X3_32 mm_smin mm_i mm_cmin (by decide) (Nat.le_of_ble_eq_true rfl) (by decide) (by decide) ?_
          refine k_sI C dX3_init_115 hF (fun h60 hF => ?_)
          refine r_iload_n C dX3_init_116 rfl 2 rfl ?_
          refine r_aload_n C dX3_init_117 rfl 1 rfl ?_
          refine k_gRr C dX3_init_118 fr_X3_29 (by decide) hF (fun x61 hF => ?_)
          refine r_iload C dX3_init_121 5 rfl ?_
          refine k_aI C dX3_init_123 hF (fun x62 hF => ?_)
          refine r_aload_n C dX3_init_124 rfl 1 rfl ?_
          refine k_gRr C dX3_init_125 fr_X3_41 (by decide) hF (fun x63 hF => ?_)
          refine r_iload C dX3_init_128 5 rfl ?_
          refine k_aI C dX3_init_130 hF (fun x64 hF => ?_)
          refine r_iadd C dX3_init_131 ?_
          refine r_mmax C dX3_init_132 mm_X3_44 mm_smax mm_i mm_cmax (by decide) (Nat.le_of_ble_eq_true rfl) (by decide) (by decide) ?_
          refine k_lti hF (fun x65 hF => ?_)
          refine r_istore_n C dX3_init_135 rfl (by decide) rfl ?_
          refine r_iload_n C dX3_init_136 rfl 3 rfl ?_
          refine r_aload_n C dX3_init_137 rfl 2 rfl ?_
          refine k_gRr C dX3_init_138 fr_X3_38 (by decide) hF (fun x66 hF => ?_)
          refine r_iload C dX3_init_141 5 rfl ?_
          refine k_aI C dX3_init_143 hF (fun x67 hF => ?_)
          refine r_aload_n C dX3_init_144 rfl 2 rfl ?_
          refine k_gRr C dX3_init_145 fr_X3_47 (by decide) hF (fun x68 hF => ?_)
          refine r_iload C dX3_init_148 5 rfl ?_
          refine k_aI C dX3_init_150 hF (fun x69 hF => ?_)
          refine r_iadd C dX3_init_151 ?_
          refine r_mmax C dX3_init_152 mm_X3_44 mm_smax mm_i mm_cmax (by decide) (Nat.le_of_ble_eq_true rfl) (by decide) (by decide) ?_
          refine k_lti hF (fun x70 hF => ?_)
          refine r_istore_n C dX3_init_155 rfl (by decide) rfl ?_
          refine r_iload C dX3_init_156 4 rfl ?_
          refine r_aload_n C dX3_init_158 rfl 3 rfl ?_
          refine k_gRr C dX3_init_159 fr_X3_41 (by decide) hF (fun x71 hF => ?_)
          refine r_iload C dX3_init_162 5 rfl ?_
          refine k_aI C dX3_init_164 hF (fun x72 hF => ?_)
          refine r_aload_n C dX3_init_165 rfl 3 rfl ?_
          refine k_gRr C dX3_init_166 fr_X3_47 (by decide) hF (fun x73 hF => ?_)
          refine r_iload C dX3_init_169 5 rfl ?_
          refine k_aI C dX3_init_171 hF (fun x74 hF => ?_)
          refine r_imul C dX3_init_172 ?_
          refine r_iadd C dX3_init_173 ?_
          refine k_lti hF (fun x75 hF => ?_)
          refine r_istore C dX3_init_174 (by decide) rfl ?_
          refine r_iinc (v := v46 + 1) C dX3_init_176 5 rfl (congrArg (fun z => v46 + z) (by decide)) (by decide) rfl ?_
          refine r_goto (tgt := 56) C dX3_init_179 (by decide) ?_
          exact r_sub [4, 5, 3, 2, 1, 0] rfl (ih _ _ _ _ _ hF)
  exact r_sub [4, 5, 3, 2, 1, 0] rfl (L56 _ _ _ _ _ _ hF)
def F_X4_init (a0 : Nat) (a1 : Int32) (a2 : Int32) (a3 : Int32) (h0 : PM) : Option (Unit × PM) := nO h0 ((a0 + 1)) 2 fun h1 => cl (F_X1_init ((a0 + 1)) h1) fun r2 h3 => pR h3 a0 5 3 ((a0 + 1)) fun h5 => pI h5 a0 5 0 a1 fun h6 => pI h6 a0 5 1 a2 fun h7 => pI h7 a0 5 2 a3 fun h8 => some ((), h8)
set_option maxRecDepth 100000 in
set_option maxHeartbeats 4000000 in
theorem S_X4_init {a0 : Nat} {a1 : Int32} {a2 : Int32} {a3 : Int32} {h0 : PM} (r : Unit) (h' : PM) (hF : F_X4_init a0 a1 a2 a3 h0 = some (r, h')) : CN yX4_init cX4_init 4 none 1 8 2 [.ref a0, .int a1, .int a2, .int a3] h0 none h' := by
  obtain ⟨X, eX⟩ : ∃ X, X = (r, h') := ⟨_, rfl⟩
  rw [← eX] at hF
  have e1 : r = X.1 := by rw [eX]
  have e2 : h' = X.2 := by rw [eX]
  rw [e2]
  clear eX e1 e2
  unfold F_X4_init at hF
  refine CN_of (by decide) (fun ρ => Nat.le_of_ble_eq_true rfl) rfl ?_
  intro p l e s m args below meth c D cy base ρ hT C V hr hnm
  refine r_aload_n C dX4_init_0 rfl 0 rfl ?_
  refine r_objInit C dX4_init_1 ml_X4_1 im_obj cd_obj (by decide) (Nat.le_of_ble_eq_true rfl) ?_
  refine r_aload_n C dX4_init_4 rfl 0 rfl ?_
  refine k_new (a := (a0 + 1)) C dX4_init_5 cls_2 cn_X4_7 in_X1 ii_X1 (by decide) (by decide) hF (fun h1 hF => ?_)
  refine r_dup C dX4_init_8 rfl ?_
  obtain ⟨r2, h3, hc4, hF⟩ := cl_some hF
  refine r_callIN (As := []) C dX4_init_9 V hT cal_X1_init mn_X4_9 im_X1_init rfl (by decide) rfl rfl (Nat.le_of_ble_eq_true rfl) (by decide) (by decide) (S_X1_init _ _ hc4) ?_
  refine k_pR C dX4_init_12 fd_X4_10 (fun _ => hnm) (by decide) hF (fun h5 hF => ?_)
  refine r_aload_n C dX4_init_15 rfl 0 rfl ?_
  refine r_iload_n C dX4_init_16 rfl 1 rfl ?_
  refine k_pI C dX4_init_17 fd_X4_16 (fun _ => hnm) (by decide) hF (fun h6 hF => ?_)
  refine r_aload_n C dX4_init_20 rfl 0 rfl ?_
  refine r_iload_n C dX4_init_21 rfl 2 rfl ?_
  refine k_pI C dX4_init_22 fd_X4_20 (fun _ => hnm) (by decide) hF (fun h7 hF => ?_)
  refine r_aload_n C dX4_init_25 rfl 0 rfl ?_
  refine r_iload_n C dX4_init_26 rfl 3 rfl ?_
  refine k_pI C dX4_init_27 fd_X4_23 (fun _ => hnm) (by decide) hF (fun h8 hF => ?_)
  exact k_vret C dX4_init_30 hr (by decide) (by decide) hF
def F_X5_init (a0 : Nat) (h0 : PM) : Option (Unit × PM) := nA h0 ((a0 + 1)) 20 10 fun h1 => pR h1 a0 6 0 ((a0 + 1)) fun h2 => nA h2 ((a0 + 2)) 20 10 fun h3 => pR h3 a0 6 1 ((a0 + 2)) fun h4 => pI h4 a0 6 2 0 fun h5 => some ((), h5)
set_option maxRecDepth 100000 in
set_option maxHeartbeats 4000000 in
theorem S_X5_init {a0 : Nat} {h0 : PM} (r : Unit) (h' : PM) (hF : F_X5_init a0 h0 = some (r, h')) : CN yX5_init cX5_init 1 none 2 20 1 [.ref a0] h0 none h' := by
  obtain ⟨X, eX⟩ : ∃ X, X = (r, h') := ⟨_, rfl⟩
  rw [← eX] at hF
  have e1 : r = X.1 := by rw [eX]
  have e2 : h' = X.2 := by rw [eX]
  rw [e2]
  clear eX e1 e2
  unfold F_X5_init at hF
  refine CN_of (by decide) (fun ρ => Nat.le_of_ble_eq_true rfl) rfl ?_
  intro p l e s m args below meth c D cy base ρ hT C V hr hnm
  refine r_aload_n C dX5_init_0 rfl 0 rfl ?_
  refine r_objInit C dX5_init_1 ml_X5_3 im_obj cd_obj (by decide) (Nat.le_of_ble_eq_true rfl) ?_
  refine r_aload_n C dX5_init_4 rfl 0 rfl ?_
  refine r_bipush (v := 10) C dX5_init_5 (by decide) ?_
  refine k_newi (N := 10) (a := (a0 + 1)) C dX5_init_7 ac_int (by decide) (by decide) (by decide) hF (fun h1 hF => ?_)
  refine k_pR C dX5_init_9 fd_X5_9 (fun _ => hnm) (by decide) hF (fun h2 hF => ?_)
  refine r_aload_n C dX5_init_12 rfl 0 rfl ?_
  refine r_bipush (v := 10) C dX5_init_13 (by decide) ?_
  refine k_newi (N := 10) (a := (a0 + 2)) C dX5_init_15 ac_int (by decide) (by decide) (by decide) hF (fun h3 hF => ?_)
  refine k_pR C dX5_init_17 fd_X5_15 (fun _ => hnm) (by decide) hF (fun h4 hF => ?_)
  refine r_aload_n C dX5_init_20 rfl 0 rfl ?_
  refine r_iconst (v := 0) C dX5_init_21 (by decide) ?_
  refine k_pI C dX5_init_22 fd_X5_18 (fun z => by cases z) (by decide) hF (fun h5 hF => ?_)
  exact k_vret C dX5_init_25 hr (by decide) (by decide) hF
def F_X5_put_L2 (c0 : Nat) (c1 : Int32) (c2 : Int32) (k41 : PM → Option (Int32 × PM)) (k26 : Int32 → PM → Option (Int32 × PM)) : Nat → Int32 → PM → Option (Int32 × PM)
  | 0, _, _ => none
  | fu + 1, v15, h16 => gI h16 c0 6 2 fun x17 => if x17 ≤ v15 then (k41 h16) else (if 10 ≤ v15 then (k41 h16) else (gR h16 c0 6 0 fun x18 => aI h16 x18 v15 fun x19 => if ¬ x19 = c1 then (F_X5_put_L2 c0 c1 c2 k41 k26 fu (v15 + 1) h16) else (k26 v15 h16)))
def F_X5_put (a0 : Nat) (a1 : Int32) (a2 : Int32) (h0 : PM) : Option (Int32 × PM) := jn (fun  (h1 : PM) => gI h1 a0 6 2 fun x2 => if x2 < 10 then (gR h1 a0 6 0 fun x3 => gI h1 a0 6 2 fun x4 => sI h1 x3 x4 a1 fun h5 => gR h5 a0 6 1 fun x6 => gI h5 a0 6 2 fun x7 => sI h5 x6 x7 a2 fun h8 => gI h8 a0 6 2 fun x9 => pI h8 a0 6 2 (x9 + 1) fun h10 => rz 1 h10) else (rz 0 h1)) fun k41 => jn (fun (v11 : Int32) (h12 : PM) => gR h12 a0 6 1 fun x13 => sI h12 x13 v11 a2 fun h14 => rz 1 h14) fun k26 => F_X5_put_L2 a0 a1 a2 k41 k26 LF 0 h0
set_option maxRecDepth 100000 in
set_option maxHeartbeats 4000000 in
theorem S_X5_put {a0 : Nat} {a1 : Int32} {a2 : Int32} {h0 : PM} (r : Int32) (h' : PM) (hF : F_X5_put a0 a1 a2 h0 = some (r, h')) : CN yX5_put cX5_put 4 (some .boolean) 0 0 0 [.ref a0, .int a1, .int a2] h0 (some (.int r)) h' := by
  obtain ⟨X, eX⟩ : ∃ X, X = (r, h') := ⟨_, rfl⟩
  rw [← eX] at hF
  have e1 : r = X.1 := by rw [eX]
  have e2 : h' = X.2 := by rw [eX]
  rw [e1, e2]
  clear eX e1 e2
  unfold F_X5_put at hF
  refine CN_of (by decide) (fun ρ => Nat.le_of_ble_eq_true rfl) rfl ?_
  intro p l e s m args below meth c D cy base ρ hT C V hr hnm
  refine r_iconst (v := 0) C dX5_put_0 (by decide) ?_
  refine r_istore_n C dX5_put_1 rfl (by decide) rfl ?_
  obtain ⟨k41, ek41, hF⟩ := jn_some hF
  have Jk41 : ∀  (h1 : PM), k41 h1 = some X → WP p l e (rmN 0 0 0) s m args below meth c D cy base ρ h0 0 0 4 (MQ below (QR D cy base ρ h0 (some (.int X.1)) X.2) args s 0 0 (fun q => base ≤ q)) 41 [(0, .ref a0), (1, .int a1), (2, .int a2)] [] h1 := by
    intro h1 hF
    rw [ek41] at hF
    refine r_aload_n C dX5_put_41 rfl 0 rfl ?_
    refine k_gI C dX5_put_42 fd_X5_18 (by decide) hF (fun x2 hF => ?_)
    refine r_bipush (v := 10) C dX5_put_45 (by decide) ?_
    refine r_icmp_lt (tgt := 52) C dX5_put_47 (by decide) hF (fun hF => ?_) (fun hF => ?_)
    · refine r_aload_n C dX5_put_52 rfl 0 rfl ?_
      refine k_gR C dX5_put_53 fd_X5_9 (by decide) hF (fun x3 hF => ?_)
      refine r_aload_n C dX5_put_56 rfl 0 rfl ?_
      refine k_gI C dX5_put_57 fd_X5_18 (by decide) hF (fun x4 hF => ?_)
      refine r_iload_n C dX5_put_60 rfl 1 rfl ?_
      refine k_sI C dX5_put_61 hF (fun h5 hF => ?_)
      refine r_aload_n C dX5_put_62 rfl 0 rfl ?_
      refine k_gR C dX5_put_63 fd_X5_15 (by decide) hF (fun x6 hF => ?_)
      refine r_aload_n C dX5_put_66 rfl 0 rfl ?_
      refine k_gI C dX5_put_67 fd_X5_18 (by decide) hF (fun x7 hF => ?_)
      refine r_iload_n C dX5_put_70 rfl 2 rfl ?_
      refine k_sI C dX5_put_71 hF (fun h8 hF => ?_)
      refine r_aload_n C dX5_put_72 rfl 0 rfl ?_
      refine r_dup C dX5_put_73 rfl ?_
      refine k_gI C dX5_put_74 fd_X5_18 (by decide) hF (fun x9 hF => ?_)
      refine r_iconst (v := 1) C dX5_put_77 (by decide) ?_
      refine r_iadd C dX5_put_78 ?_
      refine k_pI C dX5_put_79 fd_X5_18 (fun z => by cases z) (by decide) hF (fun h10 hF => ?_)
      refine r_iconst (v := 1) C dX5_put_82 (by decide) ?_
      exact k_zret C dX5_put_83 hr (by decide) (by decide) hF
    · refine r_iconst (v := 0) C dX5_put_50 (by decide) ?_
      exact k_zret C dX5_put_51 hr (by decide) (by decide) hF
  obtain ⟨k26, ek26, hF⟩ := jn_some hF
  have Jk26 : ∀ (v11 : Int32) (h12 : PM), k26 v11 h12 = some X → WP p l e (rmN 0 0 0) s m args below meth c D cy base ρ h0 0 0 4 (MQ below (QR D cy base ρ h0 (some (.int X.1)) X.2) args s 0 0 (fun q => base ≤ q)) 26 [(0, .ref a0), (2, .int a2), (3, .int v11)] [] h12 := by
    intro v11 h12 hF
    rw [ek26] at hF
    refine r_aload_n C dX5_put_26 rfl 0 rfl ?_
    refine k_gR C dX5_put_27 fd_X5_15 (by decide) hF (fun x13 hF => ?_)
    refine r_iload_n C dX5_put_30 rfl 2 rfl ?_
    refine r_iload_n C dX5_put_31 rfl 1 rfl ?_
    refine k_sI C dX5_put_32 hF (fun h14 hF => ?_)
    refine r_iconst (v := 1) C dX5_put_33 (by decide) ?_
    exact k_zret C dX5_put_34 hr (by decide) (by decide) hF
  have L2 : ∀ (fu : Nat) (v15 : Int32) (h16 : PM), F_X5_put_L2 a0 a1 a2 k41 k26 fu v15 h16 = some X → WP p l e (rmN 0 0 0) s m args below meth c D cy base ρ h0 0 0 4 (MQ below (QR D cy base ρ h0 (some (.int X.1)) X.2) args s 0 0 (fun q => base ≤ q)) 2 [(0, .ref a0), (1, .int a1), (2, .int a2), (3, .int v15)] [] h16 := by
    intro fu
    induction fu with
    | zero => intro v15 h16 hF; rw [F_X5_put_L2.eq_1] at hF; cases hF
    | succ fu ih =>
      intro v15 h16 hF
      rw [F_X5_put_L2.eq_2] at hF
      refine r_iload_n C dX5_put_2 rfl 3 rfl ?_
      refine r_aload_n C dX5_put_3 rfl 0 rfl ?_
      refine k_gI C dX5_put_4 fd_X5_18 (by decide) hF (fun x17 hF => ?_)
      refine r_icmp_ge (tgt := 41) C dX5_put_7 (by decide) hF (fun hF => ?_) (fun hF => ?_)
      · exact r_sub [0, 1, 2] rfl (Jk41  _ hF)
      · refine r_iload_n C dX5_put_10 rfl 3 rfl ?_
        refine r_bipush (v := 10) C dX5_put_11 (by decide) ?_
        refine r_icmp_ge (tgt := 41) C dX5_put_13 (by decide) hF (fun hF => ?_) (fun hF => ?_)
        · exact r_sub [0, 1, 2] rfl (Jk41  _ hF)
        · refine r_aload_n C dX5_put_16 rfl 0 rfl ?_
          refine k_gR C dX5_put_17 fd_X5_9 (by decide) hF (fun x18 hF => ?_)
          refine r_iload_n C dX5_put_20 rfl 3 rfl ?_
          refine k_aI C dX5_put_21 hF (fun x19 hF => ?_)
          refine r_iload_n C dX5_put_22 rfl 1 rfl ?_
          refine r_icmp_ne (tgt := 35) C dX5_put_23 (by decide) hF (fun hF => ?_) (fun hF => ?_)
          · refine r_iinc (v := v15 + 1) C dX5_put_35 3 rfl (congrArg (fun z => v15 + z) (by decide)) (by decide) rfl ?_
            refine r_goto (tgt := 2) C dX5_put_38 (by decide) ?_
            exact r_sub [1, 2, 3, 0] rfl (ih _ _ hF)
          · exact r_sub [0, 2, 3] rfl (Jk26 _ _ hF)
  exact r_sub [1, 2, 3, 0] rfl (L2 _ _ _ hF)
def F_X5_worthOf_L7 (c0 : Nat) (c1 : Int32) (k67 : Int32 → PM → Option (Int32 × PM)) : Nat → Int32 → Int32 → Int32 → PM → Option (Int32 × PM)
  | 0, _, _, _, _ => none
  | fu + 1, v3, v4, v5, h6 => gI h6 c0 6 2 fun x7 => if x7 ≤ v5 then (k67 v4 h6) else (if 10 ≤ v5 then (k67 v4 h6) else (gR h6 c0 6 0 fun x8 => aI h6 x8 v5 fun x9 => jn (fun (v10 : Int32) (v11 : Int32) (h12 : PM) => F_X5_worthOf_L7 c0 c1 k67 fu v10 v11 (v5 + 1) h12) fun k61 => if c1 < x9 then (k61 v3 v4 h6) else (gR h6 c0 6 0 fun x14 => aI h6 x14 v5 fun x15 => if x15 ≤ v3 then (k61 v3 v4 h6) else (gR h6 c0 6 0 fun x16 => aI h6 x16 v5 fun x17 => gR h6 c0 6 1 fun x18 => aI h6 x18 v5 fun x19 => k61 x17 x19 h6))))
def F_X5_worthOf (a0 : Nat) (a1 : Int32) (h0 : PM) : Option (Int32 × PM) := jn (fun (v1 : Int32) (h2 : PM) => some (a1 * v1, h2)) fun k67 => F_X5_worthOf_L7 a0 a1 k67 LF 0 0 0 h0
set_option maxRecDepth 100000 in
set_option maxHeartbeats 4000000 in
theorem S_X5_worthOf {a0 : Nat} {a1 : Int32} {h0 : PM} (r : Int32) (h' : PM) (hF : F_X5_worthOf a0 a1 h0 = some (r, h')) : CN yX5_worthOf cX5_worthOf 5 (some .int) 0 0 0 [.ref a0, .int a1] h0 (some (.int r)) h' := by
  obtain ⟨X, eX⟩ : ∃ X, X = (r, h') := ⟨_, rfl⟩
  rw [← eX] at hF
  have e1 : r = X.1 := by rw [eX]
  have e2 : h' = X.2 := by rw [eX]
  rw [e1, e2]
  clear eX e1 e2
  unfold F_X5_worthOf at hF
  refine CN_of (by decide) (fun ρ => Nat.le_of_ble_eq_true rfl) rfl ?_
  intro p l e s m args below meth c D cy base ρ hT C V hr hnm
  refine r_iconst (v := 0) C dX5_worthOf_0 (by decide) ?_
  refine r_istore_n C dX5_worthOf_1 rfl (by decide) rfl ?_
  refine r_iconst (v := 0) C dX5_worthOf_2 (by decide) ?_
  refine r_istore_n C dX5_worthOf_3 rfl (by decide) rfl ?_
  refine r_iconst (v := 0) C dX5_worthOf_4 (by decide) ?_
  refine r_istore C dX5_worthOf_5 (by decide) rfl ?_
  obtain ⟨k67, ek67, hF⟩ := jn_some hF
  have Jk67 : ∀ (v1 : Int32) (h2 : PM), k67 v1 h2 = some X → WP p l e (rmN 0 0 0) s m args below meth c D cy base ρ h0 0 0 5 (MQ below (QR D cy base ρ h0 (some (.int X.1)) X.2) args s 0 0 (fun q => base ≤ q)) 67 [(1, .int a1), (3, .int v1)] [] h2 := by
    intro v1 h2 hF
    rw [ek67] at hF
    refine r_iload_n C dX5_worthOf_67 rfl 0 rfl ?_
    refine r_iload_n C dX5_worthOf_68 rfl 1 rfl ?_
    refine r_imul C dX5_worthOf_69 ?_
    exact k_iret C dX5_worthOf_70 hr (by decide) (by decide) hF
  have L7 : ∀ (fu : Nat) (v3 : Int32) (v4 : Int32) (v5 : Int32) (h6 : PM), F_X5_worthOf_L7 a0 a1 k67 fu v3 v4 v5 h6 = some X → WP p l e (rmN 0 0 0) s m args below meth c D cy base ρ h0 0 0 5 (MQ below (QR D cy base ρ h0 (some (.int X.1)) X.2) args s 0 0 (fun q => base ≤ q)) 7 [(0, .ref a0), (1, .int a1), (2, .int v3), (3, .int v4), (4, .int v5)] [] h6 := by
    intro fu
    induction fu with
    | zero => intro v3 v4 v5 h6 hF; rw [F_X5_worthOf_L7.eq_1] at hF; cases hF
    | succ fu ih =>
      intro v3 v4 v5 h6 hF
      rw [F_X5_worthOf_L7.eq_2] at hF
      refine r_iload C dX5_worthOf_7 4 rfl ?_
      refine r_aload_n C dX5_worthOf_9 rfl 0 rfl ?_
      refine k_gI C dX5_worthOf_10 fd_X5_18 (by decide) hF (fun x7 hF => ?_)
      refine r_icmp_ge (tgt := 67) C dX5_worthOf_13 (by decide) hF (fun hF => ?_) (fun hF => ?_)
      · exact r_sub [1, 3] rfl (Jk67 _ _ hF)
      · refine r_iload C dX5_worthOf_16 4 rfl ?_
        refine r_bipush (v := 10) C dX5_worthOf_18 (by decide) ?_
        refine r_icmp_ge (tgt := 67) C dX5_worthOf_20 (by decide) hF (fun hF => ?_) (fun hF => ?_)
        · exact r_sub [1, 3] rfl (Jk67 _ _ hF)
        · refine r_aload_n C dX5_worthOf_23 rfl 0 rfl ?_
          refine k_gR C dX5_worthOf_24 fd_X5_9 (by decide) hF (fun x8 hF => ?_)
          refine r_iload C dX5_worthOf_27 4 rfl ?_
          refine k_aI C dX5_worthOf_29 hF (fun x9 hF => ?_)
          refine r_iload_n C dX5_worthOf_30 rfl 1 rfl ?_
          obtain ⟨k61_12, ek61_12, hF⟩ := jn_some hF
          have Jk61_12 : ∀ (v10 : Int32) (v11 : Int32) (h13 : PM), k61_12 v10 v11 h13 = some X → WP p l e (rmN 0 0 0) s m args below meth c D cy base ρ h0 0 0 5 (MQ below (QR D cy base ρ h0 (some (.int X.1)) X.2) args s 0 0 (fun q => base ≤ q)) 61 [(0, .ref a0), (1, .int a1), (2, .int v10), (3, .int v11), (4, .int v5)] [] h13 := by
            intro v10 v11 h13 hF
            rw [ek61_12] at hF
            refine r_iinc (v := v5 + 1) C dX5_worthOf_61 4 rfl (congrArg (fun z => v5 + z) (by decide)) (by decide) rfl ?_
            refine r_goto (tgt := 7) C dX5_worthOf_64 (by decide) ?_
            exact r_sub [1, 2, 3, 4, 0] rfl (ih _ _ _ _ hF)
          refine r_icmp_gt (tgt := 61) C dX5_worthOf_31 (by decide) hF (fun hF => ?_) (fun hF => ?_)
          · exact Jk61_12 _ _ _ hF
          · refine r_aload_n C dX5_worthOf_34 rfl 0 rfl ?_
            refine k_gR C dX5_worthOf_35 fd_X5_9 (by decide) hF (fun x15 hF => ?_)
            refine r_iload C dX5_worthOf_38 4 rfl ?_
            refine k_aI C dX5_worthOf_40 hF (fun x16 hF => ?_)
            refine r_iload_n C dX5_worthOf_41 rfl 2 rfl ?_
            refine r_icmp_le (tgt := 61) C dX5_worthOf_42 (by decide) hF (fun hF => ?_) (fun hF => ?_)
            · exact Jk61_12 _ _ _ hF
            · refine r_aload_n C dX5_worthOf_45 rfl 0 rfl ?_
              refine k_gR C dX5_worthOf_46 fd_X5_9 (by decide) hF (fun x17 hF => ?_)
              refine r_iload C dX5_worthOf_49 4 rfl ?_
              refine k_aI C dX5_worthOf_51 hF (fun x18 hF => ?_)
              refine r_istore_n C dX5_worthOf_52 rfl (by decide) rfl ?_
              refine r_aload_n C dX5_worthOf_53 rfl 1 rfl ?_
              refine k_gR C dX5_worthOf_54 fd_X5_15 (by decide) hF (fun x19 hF => ?_)
              refine r_iload C dX5_worthOf_57 4 rfl ?_
              refine k_aI C dX5_worthOf_59 hF (fun x20 hF => ?_)
              refine r_istore_n C dX5_worthOf_60 rfl (by decide) rfl ?_
              exact r_sub [2, 3, 1, 0, 4] rfl (Jk61_12 _ _ _ hF)
  exact r_sub [3, 4, 2, 1, 0] rfl (L7 _ _ _ _ _ hF)
