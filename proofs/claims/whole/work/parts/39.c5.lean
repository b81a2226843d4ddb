theorem ml_X11_211 : Cond.methodLink RX11 211 yX11_stoneOf ∈ gw := gwm 1037 (by decide +kernel) rfl
theorem cal_X11_stoneOf : Cal yX11_stoneOf cX11_stoneOf 2 (some (.object "RoughStones$Stone")) 1 := ⟨gwm 1040 (by decide +kernel) rfl, gwm 64 (by decide +kernel) rfl, ⟨by decide, by decide, by decide +kernel⟩, by decide⟩
theorem im_X11_stoneOf : Cond.instanceMethod yX11_stoneOf ∈ gw := gwm 1039 (by decide +kernel) rfl
theorem se_X11_stoneOf : Cond.selects RX11 yX11_stoneOf yX11_stoneOf ∈ gw := gwm 28 (by decide +kernel) rfl
theorem sx_X11_215 : (RX11, 215, "no such facet") ∈ strL := by decide +kernel
theorem fd_X11_217 : FD RX11 217 9 3 false := ⟨_, _, _, cls_9, by decide, gwm 977 (by decide +kernel) rfl, rfl, fun _ => by first | rfl | contradiction⟩
theorem fd_X11_220 : FD RX11 220 9 7 false := ⟨_, _, _, cls_9, by decide, gwm 988 (by decide +kernel) rfl, rfl, fun _ => by first | rfl | contradiction⟩
theorem fr_X11_223 : FDr RX11 223 9 8 := ⟨_, _, _, cls_9, by decide, gwm 991 (by decide +kernel) rfl⟩
theorem fr_X11_227 : FDr RX11 227 9 9 := ⟨_, _, _, cls_9, by decide, gwm 994 (by decide +kernel) rfl⟩
theorem fd_X11_310 : FD RX11 310 9 10 false := ⟨_, _, _, cls_9, by decide, gwm 996 (by decide +kernel) rfl, rfl, fun _ => by first | rfl | contradiction⟩
theorem ml_X11_313 : Cond.methodLink RX11 313 yX10_layPlan ∈ gw := gwm 1054 (by decide +kernel) rfl
theorem cal_X10_layPlan : Cal yX10_layPlan cX10_layPlan 6 none 1 := ⟨gwm 1057 (by decide +kernel) rfl, gwm 73 (by decide +kernel) rfl, ⟨by decide, by decide, by decide +kernel⟩, by decide⟩
theorem im_X10_layPlan : Cond.instanceMethod yX10_layPlan ∈ gw := gwm 1055 (by decide +kernel) rfl
theorem se_X10_layPlan : Cond.selects RX10 yX10_layPlan yX10_layPlan ∈ gw := gwm 1056 (by decide +kernel) rfl
theorem ml_X11_230 : Cond.methodLink RX11 230 yX11_plannedStone ∈ gw := gwm 1050 (by decide +kernel) rfl
theorem cal_X11_plannedStone : Cal yX11_plannedStone cX11_plannedStone 3 (some (.object "RoughStones$Stone")) 1 := ⟨gwm 1053 (by decide +kernel) rfl, gwm 64 (by decide +kernel) rfl, ⟨by decide, by decide, by decide +kernel⟩, by decide⟩
theorem im_X11_plannedStone : Cond.instanceMethod yX11_plannedStone ∈ gw := gwm 1052 (by decide +kernel) rfl
theorem se_X11_plannedStone : Cond.selects RX11 yX11_plannedStone yX11_plannedStone ∈ gw := gwm 29 (by decide +kernel) rfl
theorem fd_X11_233 : FD RX11 233 9 11 false := ⟨_, _, _, cls_9, by decide, gwm 999 (by decide +kernel) rfl, rfl, fun _ => by first | rfl | contradiction⟩
theorem fr_X11_234 : FDr RX11 234 9 12 := ⟨_, _, _, cls_9, by decide, gwm 1002 (by decide +kernel) rfl⟩
theorem ml_X11_237 : Cond.methodLink RX11 237 yX8_grind ∈ gw := gwm 1098 (by decide +kernel) rfl
theorem cal_X8_grind : Cal yX8_grind cX8_grind 3 none 0 := ⟨gwm 1101 (by decide +kernel) rfl, gwm 93 (by decide +kernel) rfl, ⟨by decide, by decide, by decide +kernel⟩, by decide⟩
theorem im_X8_grind : Cond.instanceMethod yX8_grind ∈ gw := gwm 1099 (by decide +kernel) rfl
theorem se_X8_grind : Cond.selects RX8 yX8_grind yX8_grind ∈ gw := gwm 1100 (by decide +kernel) rfl
theorem fd_X11_240 : FD RX11 240 9 2 false := ⟨_, _, _, cls_9, by decide, gwm 974 (by decide +kernel) rfl, rfl, fun _ => by first | rfl | contradiction⟩
theorem sx_X11_243 : (RX11, 243, "no such thing of a stone") ∈ strL := by decide +kernel
theorem ml_X11_245 : Cond.methodLink RX11 245 yX8_tell ∈ gw := gwm 1110 (by decide +kernel) rfl
theorem cal_X8_tell : Cal yX8_tell cX8_tell 2 (some .int) 1 := ⟨gwm 1113 (by decide +kernel) rfl, gwm 93 (by decide +kernel) rfl, ⟨by decide, by decide, by decide +kernel⟩, by decide⟩
theorem im_X8_tell : Cond.instanceMethod yX8_tell ∈ gw := gwm 1111 (by decide +kernel) rfl
theorem se_X8_tell : Cond.selects RX8 yX8_tell yX8_tell ∈ gw := gwm 1112 (by decide +kernel) rfl
theorem ml_X11_246 : Cond.methodLink RX11 246 yX2_pairUp ∈ gw := gwm 505 (by decide +kernel) rfl
theorem cal_X2_pairUp : Cal yX2_pairUp cX2_pairUp 8 (some .int) 1 := ⟨gwm 508 (by decide +kernel) rfl, gwm 74 (by decide +kernel) rfl, ⟨by decide, by decide, by decide +kernel⟩, by decide⟩
theorem im_X2_pairUp : Cond.instanceMethod yX2_pairUp ∈ gw := gwm 506 (by decide +kernel) rfl
theorem se_X2_pairUp : Cond.selects RX2 yX2_pairUp yX2_pairUp ∈ gw := gwm 507 (by decide +kernel) rfl
theorem ml_X11_263 : Cond.methodLink RX11 263 yX11_holds ∈ gw := gwm 1131 (by decide +kernel) rfl
theorem fd_X11_267 : FD RX11 267 9 5 false := ⟨_, _, _, cls_9, by decide, gwm 982 (by decide +kernel) rfl, rfl, fun _ => by first | rfl | contradiction⟩
theorem fd_X11_293 : FD RX11 293 9 6 false := ⟨_, _, _, cls_9, by decide, gwm 985 (by decide +kernel) rfl, rfl, fun _ => by first | rfl | contradiction⟩
theorem fd_X11_320 : FD RX11 320 9 4 false := ⟨_, _, _, cls_9, by decide, gwm 980 (by decide +kernel) rfl, rfl, fun _ => by first | rfl | contradiction⟩
theorem ct_X11_317 : Cond.constant RX11 317 (-1048576) ∈ gw := gwm 1125 (by decide +kernel) rfl
theorem sx_X11_318 : (RX11, 318, "bits that tell no stone") ∈ strL := by decide +kernel
theorem ml_X11_250 : Cond.methodLink RX11 250 yX11_stoneBits ∈ gw := gwm 1121 (by decide +kernel) rfl
theorem cal_X11_stoneBits : Cal yX11_stoneBits cX11_stoneBits 6 (some .long) 2 := ⟨gwm 1124 (by decide +kernel) rfl, gwm 64 (by decide +kernel) rfl, ⟨by decide, by decide, by decide +kernel⟩, by decide⟩
theorem im_X11_stoneBits : Cond.instanceMethod yX11_stoneBits ∈ gw := gwm 1123 (by decide +kernel) rfl
theorem se_X11_stoneBits : Cond.selects RX11 yX11_stoneBits yX11_stoneBits ∈ gw := gwm 35 (by decide +kernel) rfl
theorem ml_X11_254 : Cond.methodLink RX11 254 yX11_hasTaken ∈ gw := gwm 1127 (by decide +kernel) rfl
theorem cal_X11_hasTaken : Cal yX11_hasTaken cX11_hasTaken 5 (some .boolean) 1 := ⟨gwm 1130 (by decide +kernel) rfl, gwm 64 (by decide +kernel) rfl, ⟨by decide, by decide, by decide +kernel⟩, by decide⟩
theorem im_X11_hasTaken : Cond.instanceMethod yX11_hasTaken ∈ gw := gwm 1129 (by decide +kernel) rfl
theorem se_X11_hasTaken : Cond.selects RX11 yX11_hasTaken yX11_hasTaken ∈ gw := gwm 36 (by decide +kernel) rfl
theorem ml_X11_257 : Cond.methodLink RX11 257 yX11_partsPair ∈ gw := gwm 1132 (by decide +kernel) rfl
theorem cal_X11_partsPair : Cal yX11_partsPair cX11_partsPair 5 (some .boolean) 1 := ⟨gwm 1135 (by decide +kernel) rfl, gwm 64 (by decide +kernel) rfl, ⟨by decide, by decide, by decide +kernel⟩, by decide⟩
theorem im_X11_partsPair : Cond.instanceMethod yX11_partsPair ∈ gw := gwm 1134 (by decide +kernel) rfl
theorem se_X11_partsPair : Cond.selects RX11 yX11_partsPair yX11_partsPair ∈ gw := gwm 37 (by decide +kernel) rfl
theorem fd_X11_260 : FD RX11 260 1 6 false := ⟨_, _, _, cls_1, by decide, gwm 327 (by decide +kernel) rfl, rfl, fun _ => by first | rfl | contradiction⟩
theorem sx_X11_323 : (RX11, 323, "no such bidder") ∈ strL := by decide +kernel
theorem ml_X11_270 : Cond.methodLink RX11 270 yX11_refuseNoBidder ∈ gw := gwm 1143 (by decide +kernel) rfl
theorem cal_X11_refuseNoBidder : Cal yX11_refuseNoBidder cX11_refuseNoBidder 1 none 1 := ⟨gwm 1145 (by decide +kernel) rfl, gwm 64 (by decide +kernel) rfl, ⟨by decide, by decide, by decide +kernel⟩, by decide⟩
theorem sm_X11_refuseNoBidder : Cond.static yX11_refuseNoBidder ∈ gw := gwm 1144 (by decide +kernel) rfl
theorem sx_X11_273 : (RX11, 273, "no such lot") ∈ strL := by decide +kernel
theorem sx_X11_276 : (RX11, 276, "no such bid") ∈ strL := by decide +kernel
theorem ct_X11_275 : Cond.constant RX11 275 (1000000) ∈ gw := gwm 1148 (by decide +kernel) rfl
theorem ml_X11_278 : Cond.methodLink RX11 278 yX0_seal ∈ gw := gwm 1150 (by decide +kernel) rfl
theorem cal_X0_seal : Cal yX0_seal cX0_seal 5 (some .boolean) 3 := ⟨gwm 1153 (by decide +kernel) rfl, gwm 75 (by decide +kernel) rfl, ⟨by decide, by decide, by decide +kernel⟩, by decide⟩
theorem im_X0_seal : Cond.instanceMethod yX0_seal ∈ gw := gwm 1151 (by decide +kernel) rfl
theorem se_X0_seal : Cond.selects RX0 yX0_seal yX0_seal ∈ gw := gwm 1152 (by decide +kernel) rfl
theorem sx_X11_282 : (RX11, 282, "not so many lots") ∈ strL := by decide +kernel
theorem fr_X11_284 : FDr RX11 284 1 1 := ⟨_, _, _, cls_1, by decide, gwm 321 (by decide +kernel) rfl⟩
theorem ml_X11_287 : Cond.methodLink RX11 287 yX0_giveAll ∈ gw := gwm 573 (by decide +kernel) rfl
theorem cal_X0_giveAll : Cal yX0_giveAll cX0_giveAll 2 (some .int) 0 := ⟨gwm 576 (by decide +kernel) rfl, gwm 75 (by decide +kernel) rfl, ⟨by decide, by decide, by decide +kernel⟩, by decide⟩
theorem im_X0_giveAll : Cond.instanceMethod yX0_giveAll ∈ gw := gwm 574 (by decide +kernel) rfl
theorem se_X0_giveAll : Cond.selects RX0 yX0_giveAll yX0_giveAll ∈ gw := gwm 575 (by decide +kernel) rfl
theorem ml_X11_296 : Cond.methodLink RX11 296 yX0_clear ∈ gw := gwm 593 (by decide +kernel) rfl
theorem cal_X0_clear : Cal yX0_clear cX0_clear 2 none 0 := ⟨gwm 596 (by decide +kernel) rfl, gwm 75 (by decide +kernel) rfl, ⟨by decide, by decide, by decide +kernel⟩, by decide⟩
theorem im_X0_clear : Cond.instanceMethod yX0_clear ∈ gw := gwm 594 (by decide +kernel) rfl
theorem se_X0_clear : Cond.selects RX0 yX0_clear yX0_clear ∈ gw := gwm 595 (by decide +kernel) rfl
theorem ml_X11_290 : Cond.methodLink RX11 290 yX0_winnerOf ∈ gw := gwm 589 (by decide +kernel) rfl
theorem cal_X0_winnerOf : Cal yX0_winnerOf cX0_winnerOf 2 (some .int) 1 := ⟨gwm 592 (by decide +kernel) rfl, gwm 75 (by decide +kernel) rfl, ⟨by decide, by decide, by decide +kernel⟩, by decide⟩
theorem im_X0_winnerOf : Cond.instanceMethod yX0_winnerOf ∈ gw := gwm 590 (by decide +kernel) rfl
theorem se_X0_winnerOf : Cond.selects RX0 yX0_winnerOf yX0_winnerOf ∈ gw := gwm 591 (by decide +kernel) rfl
theorem ml_X11_299 : Cond.methodLink RX11 299 yX11_soldStones ∈ gw := gwm 601 (by decide +kernel) rfl
theorem cal_X11_soldStones : Cal yX11_soldStones cX11_soldStones 3 (some .int) 0 := ⟨gwm 604 (by decide +kernel) rfl, gwm 64 (by decide +kernel) rfl, ⟨by decide, by decide, by decide +kernel⟩, by decide⟩
theorem im_X11_soldStones : Cond.instanceMethod yX11_soldStones ∈ gw := gwm 603 (by decide +kernel) rfl
theorem se_X11_soldStones : Cond.selects RX11 yX11_soldStones yX11_soldStones ∈ gw := gwm 11 (by decide +kernel) rfl
theorem dX11_facet_0 : decode cX11_facet 0 = .ok (.aload_n 0, 1) := by decide +kernel
theorem dX11_facet_1 : decode cX11_facet 1 = .ok (.iload_n 1, 1) := by decide +kernel
theorem dX11_facet_2 : decode cX11_facet 2 = .ok (.invokevirtual 211, 3) := by decide +kernel
theorem dX11_facet_5 : decode cX11_facet 5 = .ok (.astore 4, 2) := by decide +kernel
theorem dX11_facet_7 : decode cX11_facet 7 = .ok (.iload_n 2, 1) := by decide +kernel
theorem dX11_facet_8 : decode cX11_facet 8 = .ok (.ifCond .lt 19, 3) := by decide +kernel
theorem dX11_facet_11 : decode cX11_facet 11 = .ok (.iload_n 2, 1) := by decide +kernel
theorem dX11_facet_12 : decode cX11_facet 12 = .ok (.bipush 96, 2) := by decide +kernel
theorem dX11_facet_14 : decode cX11_facet 14 = .ok (.if_icmp .ge 13, 3) := by decide +kernel
theorem dX11_facet_17 : decode cX11_facet 17 = .ok (.iload_n 3, 1) := by decide +kernel
theorem dX11_facet_18 : decode cX11_facet 18 = .ok (.ifCond .lt 9, 3) := by decide +kernel
theorem dX11_facet_21 : decode cX11_facet 21 = .ok (.iload_n 3, 1) := by decide +kernel
theorem dX11_facet_22 : decode cX11_facet 22 = .ok (.bipush 90, 2) := by decide +kernel
theorem dX11_facet_24 : decode cX11_facet 24 = .ok (.if_icmp .le 13, 3) := by decide +kernel
theorem dX11_facet_27 : decode cX11_facet 27 = .ok (.new 94, 3) := by decide +kernel
theorem dX11_facet_30 : decode cX11_facet 30 = .ok (.dup, 1) := by decide +kernel
theorem dX11_facet_31 : decode cX11_facet 31 = .ok (.ldc 215, 2) := by decide +kernel
theorem dX11_facet_33 : decode cX11_facet 33 = .ok (.invokespecial 98, 3) := by decide +kernel
theorem dX11_facet_36 : decode cX11_facet 36 = .ok (.athrow, 1) := by decide +kernel
theorem dX11_facet_37 : decode cX11_facet 37 = .ok (.aload 4, 2) := by decide +kernel
theorem dX11_facet_39 : decode cX11_facet 39 = .ok (.getfield 217, 3) := by decide +kernel
theorem dX11_facet_42 : decode cX11_facet 42 = .ok (.ifCond .eq 5, 3) := by decide +kernel
theorem dX11_facet_45 : decode cX11_facet 45 = .ok (.iconst (-1), 1) := by decide +kernel
theorem dX11_facet_46 : decode cX11_facet 46 = .ok (.ireturn, 1) := by decide +kernel
theorem dX11_facet_47 : decode cX11_facet 47 = .ok (.aload 4, 2) := by decide +kernel
theorem dX11_facet_49 : decode cX11_facet 49 = .ok (.getfield 220, 3) := by decide +kernel
theorem dX11_facet_52 : decode cX11_facet 52 = .ok (.bipush 8, 2) := by decide +kernel
theorem dX11_facet_54 : decode cX11_facet 54 = .ok (.if_icmp .lt 6, 3) := by decide +kernel
theorem dX11_facet_57 : decode cX11_facet 57 = .ok (.bipush (-2), 2) := by decide +kernel
theorem dX11_facet_59 : decode cX11_facet 59 = .ok (.ireturn, 1) := by decide +kernel
theorem dX11_facet_60 : decode cX11_facet 60 = .ok (.aload 4, 2) := by decide +kernel
theorem dX11_facet_62 : decode cX11_facet 62 = .ok (.getfield 223, 3) := by decide +kernel
theorem dX11_facet_65 : decode cX11_facet 65 = .ok (.aload 4, 2) := by decide +kernel
theorem dX11_facet_67 : decode cX11_facet 67 = .ok (.getfield 220, 3) := by decide +kernel
theorem dX11_facet_70 : decode cX11_facet 70 = .ok (.iload_n 2, 1) := by decide +kernel
theorem dX11_facet_71 : decode cX11_facet 71 = .ok (.iastore, 1) := by decide +kernel
theorem dX11_facet_72 : decode cX11_facet 72 = .ok (.aload 4, 2) := by decide +kernel
theorem dX11_facet_74 : decode cX11_facet 74 = .ok (.getfield 227, 3) := by decide +kernel
theorem dX11_facet_77 : decode cX11_facet 77 = .ok (.aload 4, 2) := by decide +kernel
theorem dX11_facet_79 : decode cX11_facet 79 = .ok (.getfield 220, 3) := by decide +kernel
theorem dX11_facet_82 : decode cX11_facet 82 = .ok (.iload_n 3, 1) := by decide +kernel
theorem dX11_facet_83 : decode cX11_facet 83 = .ok (.iastore, 1) := by decide +kernel
theorem dX11_facet_84 : decode cX11_facet 84 = .ok (.aload 4, 2) := by decide +kernel
theorem dX11_facet_86 : decode cX11_facet 86 = .ok (.dup, 1) := by decide +kernel
theorem dX11_facet_87 : decode cX11_facet 87 = .ok (.getfield 220, 3) := by decide +kernel
theorem dX11_facet_90 : decode cX11_facet 90 = .ok (.iconst 1, 1) := by decide +kernel
theorem dX11_facet_91 : decode cX11_facet 91 = .ok (.iadd, 1) := by decide +kernel
theorem dX11_facet_92 : decode cX11_facet 92 = .ok (.putfield 220, 3) := by decide +kernel
theorem dX11_facet_95 : decode cX11_facet 95 = .ok (.aload 4, 2) := by decide +kernel
theorem dX11_facet_97 : decode cX11_facet 97 = .ok (.getfield 220, 3) := by decide +kernel
theorem dX11_facet_100 : decode cX11_facet 100 = .ok (.ireturn, 1) := by decide +kernel
theorem dX11_plannedStone_0 : decode cX11_plannedStone 0 = .ok (.aload_n 0, 1) := by decide +kernel
theorem dX11_plannedStone_1 : decode cX11_plannedStone 1 = .ok (.iload_n 1, 1) := by decide +kernel
theorem dX11_plannedStone_2 : decode cX11_plannedStone 2 = .ok (.invokevirtual 211, 3) := by decide +kernel
theorem dX11_plannedStone_5 : decode cX11_plannedStone 5 = .ok (.astore_n 2, 1) := by decide +kernel
theorem dX11_plannedStone_6 : decode cX11_plannedStone 6 = .ok (.aload_n 2, 1) := by decide +kernel
theorem dX11_plannedStone_7 : decode cX11_plannedStone 7 = .ok (.getfield 310, 3) := by decide +kernel
theorem dX11_plannedStone_10 : decode cX11_plannedStone 10 = .ok (.aload_n 2, 1) := by decide +kernel
theorem dX11_plannedStone_11 : decode cX11_plannedStone 11 = .ok (.getfield 220, 3) := by decide +kernel
theorem dX11_plannedStone_14 : decode cX11_plannedStone 14 = .ok (.if_icmp .eq 19, 3) := by decide +kernel
theorem dX11_plannedStone_17 : decode cX11_plannedStone 17 = .ok (.aload_n 0, 1) := by decide +kernel
theorem dX11_plannedStone_18 : decode cX11_plannedStone 18 = .ok (.getfield 46, 3) := by decide +kernel
theorem dX11_plannedStone_21 : decode cX11_plannedStone 21 = .ok (.aload_n 2, 1) := by decide +kernel
theorem dX11_plannedStone_22 : decode cX11_plannedStone 22 = .ok (.invokevirtual 313, 3) := by decide +kernel
theorem dX11_plannedStone_25 : decode cX11_plannedStone 25 = .ok (.aload_n 2, 1) := by decide +kernel
theorem dX11_plannedStone_26 : decode cX11_plannedStone 26 = .ok (.aload_n 2, 1) := by decide +kernel
theorem dX11_plannedStone_27 : decode cX11_plannedStone 27 = .ok (.getfield 220, 3) := by decide +kernel
theorem dX11_plannedStone_30 : decode cX11_plannedStone 30 = .ok (.putfield 310, 3) := by decide +kernel
theorem dX11_plannedStone_33 : decode cX11_plannedStone 33 = .ok (.aload_n 2, 1) := by decide +kernel
theorem dX11_plannedStone_34 : decode cX11_plannedStone 34 = .ok (.areturn, 1) := by decide +kernel
theorem dX11_round_0 : decode cX11_round 0 = .ok (.aload_n 0, 1) := by decide +kernel
theorem dX11_round_1 : decode cX11_round 1 = .ok (.iload_n 1, 1) := by decide +kernel
theorem dX11_round_2 : decode cX11_round 2 = .ok (.invokevirtual 230, 3) := by decide +kernel
theorem dX11_round_5 : decode cX11_round 5 = .ok (.getfield 233, 3) := by decide +kernel
theorem dX11_round_8 : decode cX11_round 8 = .ok (.ireturn, 1) := by decide +kernel
theorem dX11_plan_0 : decode cX11_plan 0 = .ok (.aload_n 0, 1) := by decide +kernel
theorem dX11_plan_1 : decode cX11_plan 1 = .ok (.iload_n 1, 1) := by decide +kernel
theorem dX11_plan_2 : decode cX11_plan 2 = .ok (.invokevirtual 230, 3) := by decide +kernel
theorem dX11_plan_5 : decode cX11_plan 5 = .ok (.astore_n 3, 1) := by decide +kernel
theorem dX11_plan_6 : decode cX11_plan 6 = .ok (.iload_n 2, 1) := by decide +kernel
theorem dX11_plan_7 : decode cX11_plan 7 = .ok (.ifCond .lt 17, 3) := by decide +kernel
theorem dX11_plan_10 : decode cX11_plan 10 = .ok (.iload_n 2, 1) := by decide +kernel
theorem dX11_plan_11 : decode cX11_plan 11 = .ok (.aload_n 3, 1) := by decide +kernel
theorem dX11_plan_12 : decode cX11_plan 12 = .ok (.getfield 220, 3) := by decide +kernel
theorem dX11_plan_15 : decode cX11_plan 15 = .ok (.if_icmp .ge 9, 3) := by decide +kernel
theorem dX11_plan_18 : decode cX11_plan 18 = .ok (.iload_n 2, 1) := by decide +kernel
theorem dX11_plan_19 : decode cX11_plan 19 = .ok (.bipush 8, 2) := by decide +kernel
theorem dX11_plan_21 : decode cX11_plan 21 = .ok (.if_icmp .lt 5, 3) := by decide +kernel
theorem dX11_plan_24 : decode cX11_plan 24 = .ok (.iconst (-1), 1) := by decide +kernel
theorem dX11_plan_25 : decode cX11_plan 25 = .ok (.ireturn, 1) := by decide +kernel
theorem dX11_plan_26 : decode cX11_plan 26 = .ok (.aload_n 3, 1) := by decide +kernel
theorem dX11_plan_27 : decode cX11_plan 27 = .ok (.getfield 234, 3) := by decide +kernel
theorem dX11_plan_30 : decode cX11_plan 30 = .ok (.iload_n 2, 1) := by decide +kernel
theorem dX11_plan_31 : decode cX11_plan 31 = .ok (.iaload, 1) := by decide +kernel
theorem dX11_plan_32 : decode cX11_plan 32 = .ok (.ireturn, 1) := by decide +kernel
theorem dX11_polish_0 : decode cX11_polish 0 = .ok (.aload_n 0, 1) := by decide +kernel
theorem dX11_polish_1 : decode cX11_polish 1 = .ok (.iload_n 1, 1) := by decide +kernel
theorem dX11_polish_2 : decode cX11_polish 2 = .ok (.invokevirtual 230, 3) := by decide +kernel
theorem dX11_polish_5 : decode cX11_polish 5 = .ok (.astore_n 2, 1) := by decide +kernel
theorem dX11_polish_6 : decode cX11_polish 6 = .ok (.aload_n 2, 1) := by decide +kernel
theorem dX11_polish_7 : decode cX11_polish 7 = .ok (.getfield 217, 3) := by decide +kernel
theorem dX11_polish_10 : decode cX11_polish 10 = .ok (.ifCond .eq 5, 3) := by decide +kernel
theorem dX11_polish_13 : decode cX11_polish 13 = .ok (.iconst (-1), 1) := by decide +kernel
theorem dX11_polish_14 : decode cX11_polish 14 = .ok (.ireturn, 1) := by decide +kernel
theorem dX11_polish_15 : decode cX11_polish 15 = .ok (.aload_n 2, 1) := by decide +kernel
theorem dX11_polish_16 : decode cX11_polish 16 = .ok (.getfield 220, 3) := by decide +kernel
theorem dX11_polish_19 : decode cX11_polish 19 = .ok (.ifCond .ne 6, 3) := by decide +kernel
theorem dX11_polish_22 : decode cX11_polish 22 = .ok (.bipush (-2), 2) := by decide +kernel
theorem dX11_polish_24 : decode cX11_polish 24 = .ok (.ireturn, 1) := by decide +kernel
theorem dX11_polish_25 : decode cX11_polish 25 = .ok (.aload_n 2, 1) := by decide +kernel
theorem dX11_polish_26 : decode cX11_polish 26 = .ok (.invokevirtual 237, 3) := by decide +kernel
theorem dX11_polish_29 : decode cX11_polish 29 = .ok (.aload_n 2, 1) := by decide +kernel
theorem dX11_polish_30 : decode cX11_polish 30 = .ok (.getfield 240, 3) := by decide +kernel
theorem dX11_polish_33 : decode cX11_polish 33 = .ok (.ireturn, 1) := by decide +kernel
theorem dX11_told_0 : decode cX11_told 0 = .ok (.aload_n 0, 1) := by decide +kernel
theorem dX11_told_1 : decode cX11_told 1 = .ok (.iload_n 1, 1) := by decide +kernel
theorem dX11_told_2 : decode cX11_told 2 = .ok (.invokevirtual 211, 3) := by decide +kernel
theorem dX11_told_5 : decode cX11_told 5 = .ok (.astore_n 3, 1) := by decide +kernel
theorem dX11_told_6 : decode cX11_told 6 = .ok (.iload_n 2, 1) := by decide +kernel
theorem dX11_told_7 : decode cX11_told 7 = .ok (.ifCond .lt 9, 3) := by decide +kernel
theorem dX11_told_10 : decode cX11_told 10 = .ok (.iload_n 2, 1) := by decide +kernel
theorem dX11_told_11 : decode cX11_told 11 = .ok (.bipush 6, 2) := by decide +kernel
theorem dX11_told_13 : decode cX11_told 13 = .ok (.if_icmp .le 13, 3) := by decide +kernel
theorem dX11_told_16 : decode cX11_told 16 = .ok (.new 94, 3) := by decide +kernel
theorem dX11_told_19 : decode cX11_told 19 = .ok (.dup, 1) := by decide +kernel
theorem dX11_told_20 : decode cX11_told 20 = .ok (.ldc 243, 2) := by decide +kernel
theorem dX11_told_22 : decode cX11_told 22 = .ok (.invokespecial 98, 3) := by decide +kernel
theorem dX11_told_25 : decode cX11_told 25 = .ok (.athrow, 1) := by decide +kernel
theorem dX11_told_26 : decode cX11_told 26 = .ok (.aload_n 3, 1) := by decide +kernel
theorem dX11_told_27 : decode cX11_told 27 = .ok (.iload_n 2, 1) := by decide +kernel
theorem dX11_told_28 : decode cX11_told 28 = .ok (.invokevirtual 245, 3) := by decide +kernel
theorem dX11_told_31 : decode cX11_told 31 = .ok (.ireturn, 1) := by decide +kernel
theorem dX11_match_0 : decode cX11_match 0 = .ok (.aload_n 0, 1) := by decide +kernel
theorem dX11_match_1 : decode cX11_match 1 = .ok (.getfield 53, 3) := by decide +kernel
theorem dX11_match_4 : decode cX11_match 4 = .ok (.aload_n 0, 1) := by decide +kernel
theorem dX11_match_5 : decode cX11_match 5 = .ok (.getfield 19, 3) := by decide +kernel
theorem dX11_match_8 : decode cX11_match 8 = .ok (.invokevirtual 246, 3) := by decide +kernel
theorem dX11_match_11 : decode cX11_match 11 = .ok (.ireturn, 1) := by decide +kernel
theorem dX11_hasTaken_0 : decode cX11_hasTaken 0 = .ok (.iconst 0, 1) := by decide +kernel
theorem dX11_hasTaken_1 : decode cX11_hasTaken 1 = .ok (.istore_n 3, 1) := by decide +kernel
theorem dX11_hasTaken_2 : decode cX11_hasTaken 2 = .ok (.iload_n 3, 1) := by decide +kernel
theorem dX11_hasTaken_3 : decode cX11_hasTaken 3 = .ok (.aload_n 0, 1) := by decide +kernel
theorem dX11_hasTaken_4 : decode cX11_hasTaken 4 = .ok (.getfield 19, 3) := by decide +kernel
theorem dX11_hasTaken_7 : decode cX11_hasTaken 7 = .ok (.invokevirtual 68, 3) := by decide +kernel
theorem dX11_hasTaken_10 : decode cX11_hasTaken 10 = .ok (.if_icmp .ge 50, 3) := by decide +kernel
theorem dX11_hasTaken_13 : decode cX11_hasTaken 13 = .ok (.aload_n 0, 1) := by decide +kernel
theorem dX11_hasTaken_14 : decode cX11_hasTaken 14 = .ok (.getfield 19, 3) := by decide +kernel
theorem dX11_hasTaken_17 : decode cX11_hasTaken 17 = .ok (.iload_n 3, 1) := by decide +kernel
theorem dX11_hasTaken_18 : decode cX11_hasTaken 18 = .ok (.invokevirtual 166, 3) := by decide +kernel
theorem dX11_hasTaken_21 : decode cX11_hasTaken 21 = .ok (.checkcast 206, 3) := by decide +kernel
theorem dX11_hasTaken_24 : decode cX11_hasTaken 24 = .ok (.astore 4, 2) := by decide +kernel
theorem dX11_hasTaken_26 : decode cX11_hasTaken 26 = .ok (.lload_n 1, 1) := by decide +kernel
theorem dX11_hasTaken_27 : decode cX11_hasTaken 27 = .ok (.iload_n 3, 1) := by decide +kernel
theorem dX11_hasTaken_28 : decode cX11_hasTaken 28 = .ok (.invokestatic 263, 3) := by decide +kernel
theorem dX11_hasTaken_31 : decode cX11_hasTaken 31 = .ok (.ifCond .eq 23, 3) := by decide +kernel
theorem dX11_hasTaken_34 : decode cX11_hasTaken 34 = .ok (.aload 4, 2) := by decide +kernel
theorem dX11_hasTaken_36 : decode cX11_hasTaken 36 = .ok (.getfield 267, 3) := by decide +kernel
theorem dX11_hasTaken_39 : decode cX11_hasTaken 39 = .ok (.iconst (-1), 1) := by decide +kernel
theorem dX11_hasTaken_40 : decode cX11_hasTaken 40 = .ok (.if_icmp .ne 12, 3) := by decide +kernel
theorem dX11_hasTaken_43 : decode cX11_hasTaken 43 = .ok (.aload 4, 2) := by decide +kernel
theorem dX11_hasTaken_45 : decode cX11_hasTaken 45 = .ok (.getfield 293, 3) := by decide +kernel
theorem dX11_hasTaken_48 : decode cX11_hasTaken 48 = .ok (.iconst (-1), 1) := by decide +kernel
theorem dX11_hasTaken_49 : decode cX11_hasTaken 49 = .ok (.if_icmp .eq 5, 3) := by decide +kernel
theorem dX11_hasTaken_52 : decode cX11_hasTaken 52 = .ok (.iconst 1, 1) := by decide +kernel
theorem dX11_hasTaken_53 : decode cX11_hasTaken 53 = .ok (.ireturn, 1) := by decide +kernel
theorem dX11_hasTaken_54 : decode cX11_hasTaken 54 = .ok (.iinc 3 1, 3) := by decide +kernel
theorem dX11_hasTaken_57 : decode cX11_hasTaken 57 = .ok (.goto (-55), 3) := by decide +kernel
theorem dX11_hasTaken_60 : decode cX11_hasTaken 60 = .ok (.iconst 0, 1) := by decide +kernel
theorem dX11_hasTaken_61 : decode cX11_hasTaken 61 = .ok (.ireturn, 1) := by decide +kernel
theorem dX11_partsPair_0 : decode cX11_partsPair 0 = .ok (.iconst 0, 1) := by decide +kernel
theorem dX11_partsPair_1 : decode cX11_partsPair 1 = .ok (.istore_n 3, 1) := by decide +kernel
theorem dX11_partsPair_2 : decode cX11_partsPair 2 = .ok (.iload_n 3, 1) := by decide +kernel
theorem dX11_partsPair_3 : decode cX11_partsPair 3 = .ok (.aload_n 0, 1) := by decide +kernel
theorem dX11_partsPair_4 : decode cX11_partsPair 4 = .ok (.getfield 19, 3) := by decide +kernel
theorem dX11_partsPair_7 : decode cX11_partsPair 7 = .ok (.invokevirtual 68, 3) := by decide +kernel
theorem dX11_partsPair_10 : decode cX11_partsPair 10 = .ok (.if_icmp .ge 50, 3) := by decide +kernel
theorem dX11_partsPair_13 : decode cX11_partsPair 13 = .ok (.aload_n 0, 1) := by decide +kernel
theorem dX11_partsPair_14 : decode cX11_partsPair 14 = .ok (.getfield 19, 3) := by decide +kernel
theorem dX11_partsPair_17 : decode cX11_partsPair 17 = .ok (.iload_n 3, 1) := by decide +kernel
theorem dX11_partsPair_18 : decode cX11_partsPair 18 = .ok (.invokevirtual 166, 3) := by decide +kernel
theorem dX11_partsPair_21 : decode cX11_partsPair 21 = .ok (.checkcast 206, 3) := by decide +kernel
theorem dX11_partsPair_24 : decode cX11_partsPair 24 = .ok (.getfield 320, 3) := by decide +kernel
theorem dX11_partsPair_27 : decode cX11_partsPair 27 = .ok (.istore 4, 2) := by decide +kernel
theorem dX11_partsPair_29 : decode cX11_partsPair 29 = .ok (.lload_n 1, 1) := by decide +kernel
theorem dX11_partsPair_30 : decode cX11_partsPair 30 = .ok (.iload_n 3, 1) := by decide +kernel
theorem dX11_partsPair_31 : decode cX11_partsPair 31 = .ok (.invokestatic 263, 3) := by decide +kernel
theorem dX11_partsPair_34 : decode cX11_partsPair 34 = .ok (.ifCond .eq 20, 3) := by decide +kernel
theorem dX11_partsPair_37 : decode cX11_partsPair 37 = .ok (.iload 4, 2) := by decide +kernel
theorem dX11_partsPair_39 : decode cX11_partsPair 39 = .ok (.iconst (-1), 1) := by decide +kernel
theorem dX11_partsPair_40 : decode cX11_partsPair 40 = .ok (.if_icmp .eq 14, 3) := by decide +kernel
theorem dX11_partsPair_43 : decode cX11_partsPair 43 = .ok (.lload_n 1, 1) := by decide +kernel
theorem dX11_partsPair_44 : decode cX11_partsPair 44 = .ok (.iload 4, 2) := by decide +kernel
theorem dX11_partsPair_46 : decode cX11_partsPair 46 = .ok (.invokestatic 263, 3) := by decide +kernel
theorem dX11_partsPair_49 : decode cX11_partsPair 49 = .ok (.ifCond .ne 5, 3) := by decide +kernel
theorem dX11_partsPair_52 : decode cX11_partsPair 52 = .ok (.iconst 1, 1) := by decide +kernel
theorem dX11_partsPair_53 : decode cX11_partsPair 53 = .ok (.ireturn, 1) := by decide +kernel
theorem dX11_partsPair_54 : decode cX11_partsPair 54 = .ok (.iinc 3 1, 3) := by decide +kernel
theorem dX11_partsPair_57 : decode cX11_partsPair 57 = .ok (.goto (-55), 3) := by decide +kernel
theorem dX11_partsPair_60 : decode cX11_partsPair 60 = .ok (.iconst 0, 1) := by decide +kernel
theorem dX11_partsPair_61 : decode cX11_partsPair 61 = .ok (.ireturn, 1) := by decide +kernel
theorem dX11_stoneBits_0 : decode cX11_stoneBits 0 = .ok (.ldc_w 317, 3) := by decide +kernel
theorem dX11_stoneBits_3 : decode cX11_stoneBits 3 = .ok (.istore_n 3, 1) := by decide +kernel
theorem dX11_stoneBits_4 : decode cX11_stoneBits 4 = .ok (.iload_n 1, 1) := by decide +kernel
theorem dX11_stoneBits_5 : decode cX11_stoneBits 5 = .ok (.i2l, 1) := by decide +kernel
theorem dX11_stoneBits_6 : decode cX11_stoneBits 6 = .ok (.iload_n 2, 1) := by decide +kernel
theorem dX11_stoneBits_7 : decode cX11_stoneBits 7 = .ok (.i2l, 1) := by decide +kernel
theorem dX11_stoneBits_8 : decode cX11_stoneBits 8 = .ok (.bipush 20, 2) := by decide +kernel
theorem dX11_stoneBits_10 : decode cX11_stoneBits 10 = .ok (.lshl, 1) := by decide +kernel
theorem dX11_stoneBits_11 : decode cX11_stoneBits 11 = .ok (.lor, 1) := by decide +kernel
theorem dX11_stoneBits_12 : decode cX11_stoneBits 12 = .ok (.lstore 4, 2) := by decide +kernel
theorem dX11_stoneBits_14 : decode cX11_stoneBits 14 = .ok (.iload_n 1, 1) := by decide +kernel
theorem dX11_stoneBits_15 : decode cX11_stoneBits 15 = .ok (.iload_n 3, 1) := by decide +kernel
theorem dX11_stoneBits_16 : decode cX11_stoneBits 16 = .ok (.iand, 1) := by decide +kernel
theorem dX11_stoneBits_17 : decode cX11_stoneBits 17 = .ok (.ifCond .ne 24, 3) := by decide +kernel
theorem dX11_stoneBits_20 : decode cX11_stoneBits 20 = .ok (.iload_n 2, 1) := by decide +kernel
theorem dX11_stoneBits_21 : decode cX11_stoneBits 21 = .ok (.iload_n 3, 1) := by decide +kernel
theorem dX11_stoneBits_22 : decode cX11_stoneBits 22 = .ok (.iand, 1) := by decide +kernel
theorem dX11_stoneBits_23 : decode cX11_stoneBits 23 = .ok (.ifCond .ne 18, 3) := by decide +kernel
theorem dX11_stoneBits_26 : decode cX11_stoneBits 26 = .ok (.lload 4, 2) := by decide +kernel
theorem dX11_stoneBits_28 : decode cX11_stoneBits 28 = .ok (.aload_n 0, 1) := by decide +kernel
theorem dX11_stoneBits_29 : decode cX11_stoneBits 29 = .ok (.getfield 19, 3) := by decide +kernel
theorem dX11_stoneBits_32 : decode cX11_stoneBits 32 = .ok (.invokevirtual 68, 3) := by decide +kernel
theorem dX11_stoneBits_35 : decode cX11_stoneBits 35 = .ok (.lushr, 1) := by decide +kernel
theorem dX11_stoneBits_36 : decode cX11_stoneBits 36 = .ok (.lconst 0, 1) := by decide +kernel
theorem dX11_stoneBits_37 : decode cX11_stoneBits 37 = .ok (.lcmp, 1) := by decide +kernel
theorem dX11_stoneBits_38 : decode cX11_stoneBits 38 = .ok (.ifCond .eq 14, 3) := by decide +kernel
theorem dX11_stoneBits_41 : decode cX11_stoneBits 41 = .ok (.new 94, 3) := by decide +kernel
theorem dX11_stoneBits_44 : decode cX11_stoneBits 44 = .ok (.dup, 1) := by decide +kernel
theorem dX11_stoneBits_45 : decode cX11_stoneBits 45 = .ok (.ldc_w 318, 3) := by decide +kernel
theorem dX11_stoneBits_48 : decode cX11_stoneBits 48 = .ok (.invokespecial 98, 3) := by decide +kernel
theorem dX11_stoneBits_51 : decode cX11_stoneBits 51 = .ok (.athrow, 1) := by decide +kernel
theorem dX11_stoneBits_52 : decode cX11_stoneBits 52 = .ok (.lload 4, 2) := by decide +kernel
theorem dX11_stoneBits_54 : decode cX11_stoneBits 54 = .ok (.lreturn, 1) := by decide +kernel
theorem dX11_lot_0 : decode cX11_lot 0 = .ok (.aload_n 0, 1) := by decide +kernel
theorem dX11_lot_1 : decode cX11_lot 1 = .ok (.iload_n 1, 1) := by decide +kernel
theorem dX11_lot_2 : decode cX11_lot 2 = .ok (.iload_n 2, 1) := by decide +kernel
theorem dX11_lot_3 : decode cX11_lot 3 = .ok (.invokevirtual 250, 3) := by decide +kernel
theorem dX11_lot_6 : decode cX11_lot 6 = .ok (.lstore_n 3, 1) := by decide +kernel
theorem dX11_lot_7 : decode cX11_lot 7 = .ok (.lload_n 3, 1) := by decide +kernel
theorem dX11_lot_8 : decode cX11_lot 8 = .ok (.invokestatic 109, 3) := by decide +kernel
theorem dX11_lot_11 : decode cX11_lot 11 = .ok (.istore 5, 2) := by decide +kernel
theorem dX11_lot_13 : decode cX11_lot 13 = .ok (.iload 5, 2) := by decide +kernel
theorem dX11_lot_15 : decode cX11_lot 15 = .ok (.iconst 1, 1) := by decide +kernel
theorem dX11_lot_16 : decode cX11_lot 16 = .ok (.if_icmp .lt 10, 3) := by decide +kernel
theorem dX11_lot_19 : decode cX11_lot 19 = .ok (.iload 5, 2) := by decide +kernel
theorem dX11_lot_21 : decode cX11_lot 21 = .ok (.bipush 10, 2) := by decide +kernel
theorem dX11_lot_23 : decode cX11_lot 23 = .ok (.if_icmp .le 5, 3) := by decide +kernel
theorem dX11_lot_26 : decode cX11_lot 26 = .ok (.iconst (-1), 1) := by decide +kernel
theorem dX11_lot_27 : decode cX11_lot 27 = .ok (.ireturn, 1) := by decide +kernel
theorem dX11_lot_28 : decode cX11_lot 28 = .ok (.aload_n 0, 1) := by decide +kernel
theorem dX11_lot_29 : decode cX11_lot 29 = .ok (.lload_n 3, 1) := by decide +kernel
theorem dX11_lot_30 : decode cX11_lot 30 = .ok (.invokevirtual 254, 3) := by decide +kernel
theorem dX11_lot_33 : decode cX11_lot 33 = .ok (.ifCond .eq 6, 3) := by decide +kernel
theorem dX11_lot_36 : decode cX11_lot 36 = .ok (.bipush (-2), 2) := by decide +kernel
theorem dX11_lot_38 : decode cX11_lot 38 = .ok (.ireturn, 1) := by decide +kernel
theorem dX11_lot_39 : decode cX11_lot 39 = .ok (.aload_n 0, 1) := by decide +kernel
theorem dX11_lot_40 : decode cX11_lot 40 = .ok (.lload_n 3, 1) := by decide +kernel
theorem dX11_lot_41 : decode cX11_lot 41 = .ok (.invokevirtual 257, 3) := by decide +kernel
theorem dX11_lot_44 : decode cX11_lot 44 = .ok (.ifCond .eq 6, 3) := by decide +kernel
theorem dX11_lot_47 : decode cX11_lot 47 = .ok (.bipush (-3), 2) := by decide +kernel
theorem dX11_lot_49 : decode cX11_lot 49 = .ok (.ireturn, 1) := by decide +kernel
theorem dX11_lot_50 : decode cX11_lot 50 = .ok (.aload_n 0, 1) := by decide +kernel
theorem dX11_lot_51 : decode cX11_lot 51 = .ok (.getfield 60, 3) := by decide +kernel
theorem dX11_lot_54 : decode cX11_lot 54 = .ok (.getfield 260, 3) := by decide +kernel
theorem dX11_lot_57 : decode cX11_lot 57 = .ok (.bipush 6, 2) := by decide +kernel
theorem dX11_lot_59 : decode cX11_lot 59 = .ok (.if_icmp .lt 6, 3) := by decide +kernel
theorem dX11_lot_62 : decode cX11_lot 62 = .ok (.bipush (-4), 2) := by decide +kernel
theorem dX11_lot_64 : decode cX11_lot 64 = .ok (.ireturn, 1) := by decide +kernel
theorem dX11_lot_65 : decode cX11_lot 65 = .ok (.aload_n 0, 1) := by decide +kernel
theorem dX11_lot_66 : decode cX11_lot 66 = .ok (.getfield 60, 3) := by decide +kernel
theorem dX11_lot_69 : decode cX11_lot 69 = .ok (.getfield 260, 3) := by decide +kernel
theorem dX11_lot_72 : decode cX11_lot 72 = .ok (.istore 6, 2) := by decide +kernel
theorem dX11_lot_74 : decode cX11_lot 74 = .ok (.aload_n 0, 1) := by decide +kernel
theorem dX11_lot_75 : decode cX11_lot 75 = .ok (.getfield 60, 3) := by decide +kernel
theorem dX11_lot_78 : decode cX11_lot 78 = .ok (.dup, 1) := by decide +kernel
theorem dX11_lot_79 : decode cX11_lot 79 = .ok (.getfield 260, 3) := by decide +kernel
theorem dX11_lot_82 : decode cX11_lot 82 = .ok (.iconst 1, 1) := by decide +kernel
theorem dX11_lot_83 : decode cX11_lot 83 = .ok (.iadd, 1) := by decide +kernel
theorem dX11_lot_84 : decode cX11_lot 84 = .ok (.putfield 260, 3) := by decide +kernel
theorem dX11_lot_87 : decode cX11_lot 87 = .ok (.iconst 0, 1) := by decide +kernel
theorem dX11_lot_88 : decode cX11_lot 88 = .ok (.istore 7, 2) := by decide +kernel
theorem dX11_lot_90 : decode cX11_lot 90 = .ok (.iload 7, 2) := by decide +kernel
theorem dX11_lot_92 : decode cX11_lot 92 = .ok (.aload_n 0, 1) := by decide +kernel
theorem dX11_lot_93 : decode cX11_lot 93 = .ok (.getfield 19, 3) := by decide +kernel
theorem dX11_lot_96 : decode cX11_lot 96 = .ok (.invokevirtual 68, 3) := by decide +kernel
theorem dX11_lot_99 : decode cX11_lot 99 = .ok (.if_icmp .ge 35, 3) := by decide +kernel
theorem dX11_lot_102 : decode cX11_lot 102 = .ok (.lload_n 3, 1) := by decide +kernel
theorem dX11_lot_103 : decode cX11_lot 103 = .ok (.iload 7, 2) := by decide +kernel
theorem dX11_lot_105 : decode cX11_lot 105 = .ok (.invokestatic 263, 3) := by decide +kernel
theorem dX11_lot_108 : decode cX11_lot 108 = .ok (.ifCond .eq 20, 3) := by decide +kernel
theorem dX11_lot_111 : decode cX11_lot 111 = .ok (.aload_n 0, 1) := by decide +kernel
theorem dX11_lot_112 : decode cX11_lot 112 = .ok (.getfield 19, 3) := by decide +kernel
theorem dX11_lot_115 : decode cX11_lot 115 = .ok (.iload 7, 2) := by decide +kernel
theorem dX11_lot_117 : decode cX11_lot 117 = .ok (.invokevirtual 166, 3) := by decide +kernel
theorem dX11_lot_120 : decode cX11_lot 120 = .ok (.checkcast 206, 3) := by decide +kernel
theorem dX11_lot_123 : decode cX11_lot 123 = .ok (.iload 6, 2) := by decide +kernel
theorem dX11_lot_125 : decode cX11_lot 125 = .ok (.putfield 267, 3) := by decide +kernel
theorem dX11_lot_128 : decode cX11_lot 128 = .ok (.iinc 7 1, 3) := by decide +kernel
theorem dX11_lot_131 : decode cX11_lot 131 = .ok (.goto (-41), 3) := by decide +kernel
theorem dX11_lot_134 : decode cX11_lot 134 = .ok (.iload 6, 2) := by decide +kernel
theorem dX11_lot_136 : decode cX11_lot 136 = .ok (.ireturn, 1) := by decide +kernel
theorem dX11_refuseNoBidder_0 : decode cX11_refuseNoBidder 0 = .ok (.iload_n 0, 1) := by decide +kernel
theorem dX11_refuseNoBidder_1 : decode cX11_refuseNoBidder 1 = .ok (.ifCond .lt 8, 3) := by decide +kernel
theorem dX11_refuseNoBidder_4 : decode cX11_refuseNoBidder 4 = .ok (.iload_n 0, 1) := by decide +kernel
theorem dX11_refuseNoBidder_5 : decode cX11_refuseNoBidder 5 = .ok (.iconst 4, 1) := by decide +kernel
theorem dX11_refuseNoBidder_6 : decode cX11_refuseNoBidder 6 = .ok (.if_icmp .lt 14, 3) := by decide +kernel
theorem dX11_refuseNoBidder_9 : decode cX11_refuseNoBidder 9 = .ok (.new 83, 3) := by decide +kernel
theorem dX11_refuseNoBidder_12 : decode cX11_refuseNoBidder 12 = .ok (.dup, 1) := by decide +kernel
theorem dX11_refuseNoBidder_13 : decode cX11_refuseNoBidder 13 = .ok (.ldc_w 323, 3) := by decide +kernel
theorem dX11_refuseNoBidder_16 : decode cX11_refuseNoBidder 16 = .ok (.invokespecial 87, 3) := by decide +kernel
theorem dX11_refuseNoBidder_19 : decode cX11_refuseNoBidder 19 = .ok (.athrow, 1) := by decide +kernel
theorem dX11_refuseNoBidder_20 : decode cX11_refuseNoBidder 20 = .ok (.return_, 1) := by decide +kernel
theorem dX11_bid_0 : decode cX11_bid 0 = .ok (.iload_n 1, 1) := by decide +kernel
theorem dX11_bid_1 : decode cX11_bid 1 = .ok (.invokestatic 270, 3) := by decide +kernel
theorem dX11_bid_4 : decode cX11_bid 4 = .ok (.iload_n 2, 1) := by decide +kernel
theorem dX11_bid_5 : decode cX11_bid 5 = .ok (.ifCond .lt 14, 3) := by decide +kernel
theorem dX11_bid_8 : decode cX11_bid 8 = .ok (.iload_n 2, 1) := by decide +kernel
theorem dX11_bid_9 : decode cX11_bid 9 = .ok (.aload_n 0, 1) := by decide +kernel
theorem dX11_bid_10 : decode cX11_bid 10 = .ok (.getfield 60, 3) := by decide +kernel
theorem dX11_bid_13 : decode cX11_bid 13 = .ok (.getfield 260, 3) := by decide +kernel
theorem dX11_bid_16 : decode cX11_bid 16 = .ok (.if_icmp .lt 14, 3) := by decide +kernel
theorem dX11_bid_19 : decode cX11_bid 19 = .ok (.new 94, 3) := by decide +kernel
theorem dX11_bid_22 : decode cX11_bid 22 = .ok (.dup, 1) := by decide +kernel
theorem dX11_bid_23 : decode cX11_bid 23 = .ok (.ldc_w 273, 3) := by decide +kernel
theorem dX11_bid_26 : decode cX11_bid 26 = .ok (.invokespecial 98, 3) := by decide +kernel
theorem dX11_bid_29 : decode cX11_bid 29 = .ok (.athrow, 1) := by decide +kernel
theorem dX11_bid_30 : decode cX11_bid 30 = .ok (.iload_n 3, 1) := by decide +kernel
theorem dX11_bid_31 : decode cX11_bid 31 = .ok (.iconst 1, 1) := by decide +kernel
theorem dX11_bid_32 : decode cX11_bid 32 = .ok (.if_icmp .lt 10, 3) := by decide +kernel
theorem dX11_bid_35 : decode cX11_bid 35 = .ok (.iload_n 3, 1) := by decide +kernel
theorem dX11_bid_36 : decode cX11_bid 36 = .ok (.ldc_w 275, 3) := by decide +kernel
theorem dX11_bid_39 : decode cX11_bid 39 = .ok (.if_icmp .le 14, 3) := by decide +kernel
theorem dX11_bid_42 : decode cX11_bid 42 = .ok (.new 94, 3) := by decide +kernel
theorem dX11_bid_45 : decode cX11_bid 45 = .ok (.dup, 1) := by decide +kernel
theorem dX11_bid_46 : decode cX11_bid 46 = .ok (.ldc_w 276, 3) := by decide +kernel
theorem dX11_bid_49 : decode cX11_bid 49 = .ok (.invokespecial 98, 3) := by decide +kernel
theorem dX11_bid_52 : decode cX11_bid 52 = .ok (.athrow, 1) := by decide +kernel
theorem dX11_bid_53 : decode cX11_bid 53 = .ok (.aload_n 0, 1) := by decide +kernel
theorem dX11_bid_54 : decode cX11_bid 54 = .ok (.getfield 60, 3) := by decide +kernel
theorem dX11_bid_57 : decode cX11_bid 57 = .ok (.iload_n 1, 1) := by decide +kernel
theorem dX11_bid_58 : decode cX11_bid 58 = .ok (.iload_n 2, 1) := by decide +kernel
theorem dX11_bid_59 : decode cX11_bid 59 = .ok (.iload_n 3, 1) := by decide +kernel
theorem dX11_bid_60 : decode cX11_bid 60 = .ok (.invokevirtual 278, 3) := by decide +kernel
theorem dX11_bid_63 : decode cX11_bid 63 = .ok (.ifCond .eq 7, 3) := by decide +kernel
theorem dX11_bid_66 : decode cX11_bid 66 = .ok (.iconst 1, 1) := by decide +kernel
theorem dX11_bid_67 : decode cX11_bid 67 = .ok (.goto 4, 3) := by decide +kernel
theorem dX11_bid_70 : decode cX11_bid 70 = .ok (.iconst (-1), 1) := by decide +kernel
theorem dX11_bid_71 : decode cX11_bid 71 = .ok (.ireturn, 1) := by decide +kernel
theorem dX11_most_0 : decode cX11_most 0 = .ok (.iload_n 1, 1) := by decide +kernel
theorem dX11_most_1 : decode cX11_most 1 = .ok (.invokestatic 270, 3) := by decide +kernel
theorem dX11_most_4 : decode cX11_most 4 = .ok (.iload_n 2, 1) := by decide +kernel
theorem dX11_most_5 : decode cX11_most 5 = .ok (.ifCond .lt 9, 3) := by decide +kernel
theorem dX11_most_8 : decode cX11_most 8 = .ok (.iload_n 2, 1) := by decide +kernel
theorem dX11_most_9 : decode cX11_most 9 = .ok (.bipush 6, 2) := by decide +kernel
theorem dX11_most_11 : decode cX11_most 11 = .ok (.if_icmp .le 14, 3) := by decide +kernel
theorem dX11_most_14 : decode cX11_most 14 = .ok (.new 94, 3) := by decide +kernel
theorem dX11_most_17 : decode cX11_most 17 = .ok (.dup, 1) := by decide +kernel
theorem dX11_most_18 : decode cX11_most 18 = .ok (.ldc_w 282, 3) := by decide +kernel
theorem dX11_most_21 : decode cX11_most 21 = .ok (.invokespecial 98, 3) := by decide +kernel
theorem dX11_most_24 : decode cX11_most 24 = .ok (.athrow, 1) := by decide +kernel
theorem dX11_most_25 : decode cX11_most 25 = .ok (.aload_n 0, 1) := by decide +kernel
theorem dX11_most_26 : decode cX11_most 26 = .ok (.getfield 60, 3) := by decide +kernel
theorem dX11_most_29 : decode cX11_most 29 = .ok (.getfield 284, 3) := by decide +kernel
theorem dX11_most_32 : decode cX11_most 32 = .ok (.iload_n 1, 1) := by decide +kernel
theorem dX11_most_33 : decode cX11_most 33 = .ok (.iaload, 1) := by decide +kernel
theorem dX11_most_34 : decode cX11_most 34 = .ok (.istore_n 3, 1) := by decide +kernel
theorem dX11_most_35 : decode cX11_most 35 = .ok (.aload_n 0, 1) := by decide +kernel
theorem dX11_most_36 : decode cX11_most 36 = .ok (.getfield 60, 3) := by decide +kernel
theorem dX11_most_39 : decode cX11_most 39 = .ok (.getfield 284, 3) := by decide +kernel
theorem dX11_most_42 : decode cX11_most 42 = .ok (.iload_n 1, 1) := by decide +kernel
theorem dX11_most_43 : decode cX11_most 43 = .ok (.iload_n 2, 1) := by decide +kernel
theorem dX11_most_44 : decode cX11_most 44 = .ok (.iastore, 1) := by decide +kernel
theorem dX11_most_45 : decode cX11_most 45 = .ok (.iload_n 3, 1) := by decide +kernel
theorem dX11_most_46 : decode cX11_most 46 = .ok (.ireturn, 1) := by decide +kernel
theorem dX11_sell_0 : decode cX11_sell 0 = .ok (.aload_n 0, 1) := by decide +kernel
theorem dX11_sell_1 : decode cX11_sell 1 = .ok (.getfield 60, 3) := by decide +kernel
theorem dX11_sell_4 : decode cX11_sell 4 = .ok (.invokevirtual 287, 3) := by decide +kernel
theorem dX11_sell_7 : decode cX11_sell 7 = .ok (.istore_n 1, 1) := by decide +kernel
theorem dX11_sell_8 : decode cX11_sell 8 = .ok (.iconst 0, 1) := by decide +kernel
theorem dX11_sell_9 : decode cX11_sell 9 = .ok (.istore_n 2, 1) := by decide +kernel
theorem dX11_sell_10 : decode cX11_sell 10 = .ok (.iload_n 2, 1) := by decide +kernel
theorem dX11_sell_11 : decode cX11_sell 11 = .ok (.aload_n 0, 1) := by decide +kernel
theorem dX11_sell_12 : decode cX11_sell 12 = .ok (.getfield 19, 3) := by decide +kernel
theorem dX11_sell_15 : decode cX11_sell 15 = .ok (.invokevirtual 68, 3) := by decide +kernel
theorem dX11_sell_18 : decode cX11_sell 18 = .ok (.if_icmp .ge 49, 3) := by decide +kernel
theorem dX11_sell_21 : decode cX11_sell 21 = .ok (.aload_n 0, 1) := by decide +kernel
theorem dX11_sell_22 : decode cX11_sell 22 = .ok (.getfield 19, 3) := by decide +kernel
theorem dX11_sell_25 : decode cX11_sell 25 = .ok (.iload_n 2, 1) := by decide +kernel
theorem dX11_sell_26 : decode cX11_sell 26 = .ok (.invokevirtual 166, 3) := by decide +kernel
theorem dX11_sell_29 : decode cX11_sell 29 = .ok (.checkcast 206, 3) := by decide +kernel
theorem dX11_sell_32 : decode cX11_sell 32 = .ok (.astore_n 3, 1) := by decide +kernel
theorem dX11_sell_33 : decode cX11_sell 33 = .ok (.aload_n 3, 1) := by decide +kernel
theorem dX11_sell_34 : decode cX11_sell 34 = .ok (.getfield 267, 3) := by decide +kernel
theorem dX11_sell_37 : decode cX11_sell 37 = .ok (.iconst (-1), 1) := by decide +kernel
theorem dX11_sell_38 : decode cX11_sell 38 = .ok (.if_icmp .eq 23, 3) := by decide +kernel
theorem dX11_sell_41 : decode cX11_sell 41 = .ok (.aload_n 3, 1) := by decide +kernel
theorem dX11_sell_42 : decode cX11_sell 42 = .ok (.aload_n 0, 1) := by decide +kernel
theorem dX11_sell_43 : decode cX11_sell 43 = .ok (.getfield 60, 3) := by decide +kernel
theorem dX11_sell_46 : decode cX11_sell 46 = .ok (.aload_n 3, 1) := by decide +kernel
theorem dX11_sell_47 : decode cX11_sell 47 = .ok (.getfield 267, 3) := by decide +kernel
theorem dX11_sell_50 : decode cX11_sell 50 = .ok (.invokevirtual 290, 3) := by decide +kernel
theorem dX11_sell_53 : decode cX11_sell 53 = .ok (.putfield 293, 3) := by decide +kernel
theorem dX11_sell_56 : decode cX11_sell 56 = .ok (.aload_n 3, 1) := by decide +kernel
theorem dX11_sell_57 : decode cX11_sell 57 = .ok (.iconst (-1), 1) := by decide +kernel
theorem dX11_sell_58 : decode cX11_sell 58 = .ok (.putfield 267, 3) := by decide +kernel
theorem dX11_sell_61 : decode cX11_sell 61 = .ok (.iinc 2 1, 3) := by decide +kernel
theorem dX11_sell_64 : decode cX11_sell 64 = .ok (.goto (-54), 3) := by decide +kernel
theorem dX11_sell_67 : decode cX11_sell 67 = .ok (.aload_n 0, 1) := by decide +kernel
theorem dX11_sell_68 : decode cX11_sell 68 = .ok (.getfield 60, 3) := by decide +kernel
theorem dX11_sell_71 : decode cX11_sell 71 = .ok (.invokevirtual 296, 3) := by decide +kernel
theorem dX11_sell_74 : decode cX11_sell 74 = .ok (.aload_n 0, 1) := by decide +kernel
theorem dX11_sell_75 : decode cX11_sell 75 = .ok (.dup, 1) := by decide +kernel
theorem dX11_sell_76 : decode cX11_sell 76 = .ok (.getfield 64, 3) := by decide +kernel
theorem dX11_sell_79 : decode cX11_sell 79 = .ok (.iload_n 1, 1) := by decide +kernel
theorem dX11_sell_80 : decode cX11_sell 80 = .ok (.iadd, 1) := by decide +kernel
theorem dX11_sell_81 : decode cX11_sell 81 = .ok (.putfield 64, 3) := by decide +kernel
theorem dX11_sell_84 : decode cX11_sell 84 = .ok (.iload_n 1, 1) := by decide +kernel
theorem dX11_sell_85 : decode cX11_sell 85 = .ok (.ireturn, 1) := by decide +kernel
theorem dX11_soldStones_0 : decode cX11_soldStones 0 = .ok (.iconst 0, 1) := by decide +kernel
theorem dX11_soldStones_1 : decode cX11_soldStones 1 = .ok (.istore_n 1, 1) := by decide +kernel
theorem dX11_soldStones_2 : decode cX11_soldStones 2 = .ok (.iconst 0, 1) := by decide +kernel
theorem dX11_soldStones_3 : decode cX11_soldStones 3 = .ok (.istore_n 2, 1) := by decide +kernel
theorem dX11_soldStones_4 : decode cX11_soldStones 4 = .ok (.iload_n 2, 1) := by decide +kernel
theorem dX11_soldStones_5 : decode cX11_soldStones 5 = .ok (.aload_n 0, 1) := by decide +kernel
theorem dX11_soldStones_6 : decode cX11_soldStones 6 = .ok (.getfield 19, 3) := by decide +kernel
theorem dX11_soldStones_9 : decode cX11_soldStones 9 = .ok (.invokevirtual 68, 3) := by decide +kernel
theorem dX11_soldStones_12 : decode cX11_soldStones 12 = .ok (.if_icmp .ge 30, 3) := by decide +kernel
theorem dX11_soldStones_15 : decode cX11_soldStones 15 = .ok (.aload_n 0, 1) := by decide +kernel
theorem dX11_soldStones_16 : decode cX11_soldStones 16 = .ok (.getfield 19, 3) := by decide +kernel
theorem dX11_soldStones_19 : decode cX11_soldStones 19 = .ok (.iload_n 2, 1) := by decide +kernel
theorem dX11_soldStones_20 : decode cX11_soldStones 20 = .ok (.invokevirtual 166, 3) := by decide +kernel
theorem dX11_soldStones_23 : decode cX11_soldStones 23 = .ok (.checkcast 206, 3) := by decide +kernel
theorem dX11_soldStones_26 : decode cX11_soldStones 26 = .ok (.getfield 293, 3) := by decide +kernel
theorem dX11_soldStones_29 : decode cX11_soldStones 29 = .ok (.iconst (-1), 1) := by decide +kernel
theorem dX11_soldStones_30 : decode cX11_soldStones 30 = .ok (.if_icmp .eq 6, 3) := by decide +kernel
theorem dX11_soldStones_33 : decode cX11_soldStones 33 = .ok (.iinc 1 1, 3) := by decide +kernel
theorem dX11_soldStones_36 : decode cX11_soldStones 36 = .ok (.iinc 2 1, 3) := by decide +kernel
theorem dX11_soldStones_39 : decode cX11_soldStones 39 = .ok (.goto (-35), 3) := by decide +kernel
theorem dX11_soldStones_42 : decode cX11_soldStones 42 = .ok (.iload_n 1, 1) := by decide +kernel
theorem dX11_soldStones_43 : decode cX11_soldStones 43 = .ok (.ireturn, 1) := by decide +kernel
theorem dX11_count_0 : decode cX11_count 0 = .ok (.iload_n 1, 1) := by decide +kernel
theorem dX11_count_1 : decode cX11_count 1 = .ok (.tableswitch 105 0 7 #[47, 55, 63, 71, 79, 84, 92, 100], 47) := by decide +kernel
theorem dX11_count_48 : decode cX11_count 48 = .ok (.aload_n 0, 1) := by decide +kernel
theorem dX11_count_49 : decode cX11_count 49 = .ok (.getfield 12, 3) := by decide +kernel
theorem dX11_count_52 : decode cX11_count 52 = .ok (.invokevirtual 68, 3) := by decide +kernel
theorem dX11_count_55 : decode cX11_count 55 = .ok (.ireturn, 1) := by decide +kernel
theorem dX11_count_56 : decode cX11_count 56 = .ok (.aload_n 0, 1) := by decide +kernel
theorem dX11_count_57 : decode cX11_count 57 = .ok (.getfield 16, 3) := by decide +kernel
theorem dX11_count_60 : decode cX11_count 60 = .ok (.invokevirtual 68, 3) := by decide +kernel
theorem dX11_count_63 : decode cX11_count 63 = .ok (.ireturn, 1) := by decide +kernel
theorem dX11_count_64 : decode cX11_count 64 = .ok (.aload_n 0, 1) := by decide +kernel
theorem dX11_count_65 : decode cX11_count 65 = .ok (.getfield 19, 3) := by decide +kernel
theorem dX11_count_68 : decode cX11_count 68 = .ok (.invokevirtual 68, 3) := by decide +kernel
theorem dX11_count_71 : decode cX11_count 71 = .ok (.ireturn, 1) := by decide +kernel
theorem dX11_count_72 : decode cX11_count 72 = .ok (.aload_n 0, 1) := by decide +kernel
theorem dX11_count_73 : decode cX11_count 73 = .ok (.getfield 60, 3) := by decide +kernel
theorem dX11_count_76 : decode cX11_count 76 = .ok (.getfield 260, 3) := by decide +kernel
theorem dX11_count_79 : decode cX11_count 79 = .ok (.ireturn, 1) := by decide +kernel
theorem dX11_count_80 : decode cX11_count 80 = .ok (.aload_n 0, 1) := by decide +kernel
theorem dX11_count_81 : decode cX11_count 81 = .ok (.getfield 64, 3) := by decide +kernel
theorem dX11_count_84 : decode cX11_count 84 = .ok (.ireturn, 1) := by decide +kernel
theorem dX11_count_85 : decode cX11_count 85 = .ok (.aload_n 0, 1) := by decide +kernel
theorem dX11_count_86 : decode cX11_count 86 = .ok (.getfield 32, 3) := by decide +kernel
theorem dX11_count_89 : decode cX11_count 89 = .ok (.getfield 150, 3) := by decide +kernel
theorem dX11_count_92 : decode cX11_count 92 = .ok (.ireturn, 1) := by decide +kernel
theorem dX11_count_93 : decode cX11_count 93 = .ok (.aload_n 0, 1) := by decide +kernel
theorem dX11_count_94 : decode cX11_count 94 = .ok (.getfield 25, 3) := by decide +kernel
theorem dX11_count_97 : decode cX11_count 97 = .ok (.getfield 115, 3) := by decide +kernel
theorem dX11_count_100 : decode cX11_count 100 = .ok (.ireturn, 1) := by decide +kernel
theorem dX11_count_101 : decode cX11_count 101 = .ok (.aload_n 0, 1) := by decide +kernel
theorem dX11_count_102 : decode cX11_count 102 = .ok (.invokevirtual 299, 3) := by decide +kernel
theorem dX11_count_105 : decode cX11_count 105 = .ok (.ireturn, 1) := by decide +kernel
theorem dX11_count_106 : decode cX11_count 106 = .ok (.iconst (-1), 1) := by decide +kernel
theorem dX11_count_107 : decode cX11_count 107 = .ok (.ireturn, 1) := by decide +kernel
def F_X11_facet (a0 : Nat) (a1 : Int32) (a2 : Int32) (a3 : Int32) (h0 : PM) : Option ((Nat ⊕ Int32) × PM) := tst h0 a0 12 (cx (F_X11_stoneOf a0 a1 h0) fun r1 h2 => jn (fun  (h7 : PM) => some (.inl 2, h7)) fun k27 => if a2 < 0 then (k27 h2) else (if 96 ≤ a2 then (k27 h2) else (if a3 < 0 then (k27 h2) else (if a3 ≤ 90 then (gI h2 r1 9 3 fun x8 => if x8 = 0 then (gI h2 r1 9 7 fun x9 => if x9 < 8 then (gR h2 r1 9 8 fun x10 => gI h2 r1 9 7 fun x11 => sI h2 x10 x11 a2 fun h12 => gR h12 r1 9 9 fun x13 => gI h12 r1 9 7 fun x14 => sI h12 x13 x14 a3 fun h15 => gI h15 r1 9 7 fun x16 => pI h15 r1 9 7 (x16 + 1) fun h17 => gI h17 r1 9 7 fun x18 => some (.inr x18, h17)) else (some (.inr (-2), h2))) else (some (.inr (-1), h2))) else (k27 h2)))))
set_option maxRecDepth 100000 in
set_option maxHeartbeats 4000000 in
theorem S_X11_facet {a0 : Nat} {a1 : Int32} {a2 : Int32} {a3 : Int32} {h0 : PM} (r : Nat ⊕ Int32) (h' : PM) (hF : F_X11_facet a0 a1 a2 a3 h0 = some (r, h')) : CX yX11_facet cX11_facet 5 (some .int) 2 12 7 [.ref a0, .int a1, .int a2, .int a3] h0 (rX (fun v => some (.int v)) r) h' := by
  obtain ⟨X, eX⟩ : ∃ X, X = (r, h') := ⟨_, rfl⟩
  rw [← eX] at hF
  have e1 : r = X.1 := by rw [eX]
  have e2 : h' = X.2 := by rw [eX]
  rw [e1, e2]
  clear eX e1 e2
  unfold F_X11_facet at hF
  refine CX_of (by decide) (fun ρ => Nat.le_of_ble_eq_true rfl) rfl ?_
  intro p l e s m args below meth c D cy base ρ hT C V hE hr hnm
  refine r_aload_n C dX11_facet_0 rfl 0 rfl ?_
  refine r_iload_n C dX11_facet_1 rfl 1 rfl ?_
  obtain ⟨ht, hF⟩ := tst_some hF
  obtain ⟨rx4, h2, hc3, hx5, hk6⟩ := cx_some hF
  refine r_callVX (As := [.int a1]) C dX11_facet_2 V hT hE cal_X11_stoneOf cls_12 ml_X11_211 im_X11_stoneOf se_X11_stoneOf ht (by decide) rfl rfl (Nat.le_of_ble_eq_true rfl) (by decide) (by decide) (S_X11_stoneOf _ _ hc3) (fun k9 e9 => hx5 k9 (rX_inl e9)) (fun v9 e9 => ?_)
  obtain ⟨r1, er, rfl⟩ := rX_inr e9
  have hF := hk6 r1 er
  refine r_astore C dX11_facet_5 (by decide) rfl ?_
  refine r_iload_n C dX11_facet_7 rfl 3 rfl ?_
  obtain ⟨k27, ek27, hF⟩ := jn_some hF
  have Jk27 : ∀  (h7 : PM), k27 h7 = some X → WP p l e (rmN 2 12 7) s m args below meth c D cy base ρ h0 1 6 5 (QX D cy base ρ h0 (rX (fun v => some (.int v)) X.1) X.2 below args s 2 12) 27 [] [] h7 := by
    intro h7 hF
    rw [ek27] at hF
    exact k_thr C V hT hE tk_X11_2_94_98 sx_X11_215 dX11_facet_27 dX11_facet_30 dX11_facet_31 dX11_facet_33 dX11_facet_36 (by decide) (Nat.le_of_ble_eq_true rfl) (by decide) (by decide) hF
  refine r_if_lt (tgt := 27) C dX11_facet_8 (by decide) hF (fun hF => ?_) (fun hF => ?_)
  · exact r_sub [] rfl (Jk27  _ hF)
  · refine r_iload_n C dX11_facet_11 rfl 3 rfl ?_
    refine r_bipush (v := 96) C dX11_facet_12 (by decide) ?_
    refine r_icmp_ge (tgt := 27) C dX11_facet_14 (by decide) hF (fun hF => ?_) (fun hF => ?_)
    · exact r_sub [] rfl (Jk27  _ hF)
    · refine r_iload_n C dX11_facet_17 rfl 4 rfl ?_
      refine r_if_lt (tgt := 27) C dX11_facet_18 (by decide) hF (fun hF => ?_) (fun hF => ?_)
      · exact r_sub [] rfl (Jk27  _ hF)
      · refine r_iload_n C dX11_facet_21 rfl 4 rfl ?_
        refine r_bipush (v := 90) C dX11_facet_22 (by decide) ?_
        refine r_icmp_le (tgt := 37) C dX11_facet_24 (by decide) hF (fun hF => ?_) (fun hF => ?_)
        · refine r_aload C dX11_facet_37 0 rfl ?_
          refine k_gI C dX11_facet_39 fd_X11_217 (by decide) hF (fun x8 hF => ?_)
          refine r_if_eq (tgt := 47) C dX11_facet_42 (by decide) hF (fun hF => ?_) (fun hF => ?_)
          · refine r_aload C dX11_facet_47 0 rfl ?_
            refine k_gI C dX11_facet_49 fd_X11_220 (by decide) hF (fun x9 hF => ?_)
            refine r_bipush (v := 8) C dX11_facet_52 (by decide) ?_
            refine r_icmp_lt (tgt := 60) C dX11_facet_54 (by decide) hF (fun hF => ?_) (fun hF => ?_)
            · refine r_aload C dX11_facet_60 0 rfl ?_
              refine k_gRr C dX11_facet_62 fr_X11_223 (by decide) hF (fun x10 hF => ?_)
              refine r_aload C dX11_facet_65 0 rfl ?_
              refine k_gI C dX11_facet_67 fd_X11_220 (by decide) hF (fun x11 hF => ?_)
              refine r_iload_n C dX11_facet_70 rfl 3 rfl ?_
              refine k_sI C dX11_facet_71 hF (fun h12 hF => ?_)
              refine r_aload C dX11_facet_72 0 rfl ?_
              refine k_gRr C dX11_facet_74 fr_X11_227 (by decide) hF (fun x13 hF => ?_)
              refine r_aload C dX11_facet_77 0 rfl ?_
              refine k_gI C dX11_facet_79 fd_X11_220 (by decide) hF (fun x14 hF => ?_)
              refine r_iload_n C dX11_facet_82 rfl 4 rfl ?_
              refine k_sI C dX11_facet_83 hF (fun h15 hF => ?_)
              refine r_aload C dX11_facet_84 0 rfl ?_
              refine r_dup C dX11_facet_86 rfl ?_
              refine k_gI C dX11_facet_87 fd_X11_220 (by decide) hF (fun x16 hF => ?_)
              refine r_iconst (v := 1) C dX11_facet_90 (by decide) ?_
              refine r_iadd C dX11_facet_91 ?_
              refine k_pI C dX11_facet_92 fd_X11_220 (fun z => by cases z) (by decide) hF (fun h17 hF => ?_)
              refine r_aload C dX11_facet_95 0 rfl ?_
              refine k_gI C dX11_facet_97 fd_X11_220 (by decide) hF (fun x18 hF => ?_)
              exact k_iretX C dX11_facet_100 hr (by decide) (by decide) hF
            · refine r_bipush (v := (-2)) C dX11_facet_57 (by decide) ?_
              exact k_iretX C dX11_facet_59 hr (by decide) (by decide) hF
          · refine r_iconst (v := (-1)) C dX11_facet_45 (by decide) ?_
            exact k_iretX C dX11_facet_46 hr (by decide) (by decide) hF
        · exact r_sub [] rfl (Jk27  _ hF)
def F_X11_plannedStone (a0 : Nat) (a1 : Int32) (h0 : PM) : Option ((Nat ⊕ Nat) × PM) := tst h0 a0 12 (cx (F_X11_stoneOf a0 a1 h0) fun r1 h2 => gI h2 r1 9 10 fun x7 => gI h2 r1 9 7 fun x8 => jn (fun  (h9 : PM) => some (.inr r1, h9)) fun k33 => if x7 = x8 then (k33 h2) else (gR h2 a0 12 6 fun x10 => tst h2 x10 11 (cl (F_X10_layPlan x10 r1 h2) fun r11 h12 => gI h12 r1 9 7 fun x14 => pI h12 r1 9 10 x14 fun h15 => k33 h15)))
set_option maxRecDepth 100000 in
set_option maxHeartbeats 4000000 in
theorem S_X11_plannedStone {a0 : Nat} {a1 : Int32} {h0 : PM} (r : Nat ⊕ Nat) (h' : PM) (hF : F_X11_plannedStone a0 a1 h0 = some (r, h')) : CX yX11_plannedStone cX11_plannedStone 3 (some (.object "RoughStones$Stone")) 1 6 7 [.ref a0, .int a1] h0 (rX (fun v => some (.ref v)) r) h' := by
  obtain ⟨X, eX⟩ : ∃ X, X = (r, h') := ⟨_, rfl⟩
  rw [← eX] at hF
  have e1 : r = X.1 := by rw [eX]
  have e2 : h' = X.2 := by rw [eX]
  rw [e1, e2]
  clear eX e1 e2
  unfold F_X11_plannedStone at hF
  refine CX_of (by decide) (fun ρ => Nat.le_of_ble_eq_true rfl) rfl ?_
  intro p l e s m args below meth c D cy base ρ hT C V hE hr hnm
  refine r_aload_n C dX11_plannedStone_0 rfl 0 rfl ?_
  refine r_iload_n C dX11_plannedStone_1 rfl 1 rfl ?_
  obtain ⟨ht, hF⟩ := tst_some hF
  obtain ⟨rx4, h2, hc3, hx5, hk6⟩ := cx_some hF
  refine r_callVX (As := [.int a1]) C dX11_plannedStone_2 V hT hE cal_X11_stoneOf cls_12 ml_X11_211 im_X11_stoneOf se_X11_stoneOf ht (by decide) rfl rfl (Nat.le_of_ble_eq_true rfl) (by decide) (by decide) (S_X11_stoneOf _ _ hc3) (fun k9 e9 => hx5 k9 (rX_inl e9)) (fun v9 e9 => ?_)
  obtain ⟨r1, er, rfl⟩ := rX_inr e9
  have hF := hk6 r1 er
  refine r_astore_n C dX11_plannedStone_5 rfl (by decide) rfl ?_
  refine r_aload_n C dX11_plannedStone_6 rfl 0 rfl ?_
  refine k_gI C dX11_plannedStone_7 fd_X11_310 (by decide) hF (fun x7 hF => ?_)
  refine r_aload_n C dX11_plannedStone_10 rfl 0 rfl ?_
  refine k_gI C dX11_plannedStone_11 fd_X11_220 (by decide) hF (fun x8 hF => ?_)
  obtain ⟨k33, ek33, hF⟩ := jn_some hF
  have Jk33 : ∀  (h9 : PM), k33 h9 = some X → WP p l e (rmN 1 6 7) s m args below meth c D cy base ρ h0 1 6 3 (QX D cy base ρ h0 (rX (fun v => some (.ref v)) X.1) X.2 below args s 1 6) 33 [(2, .ref r1)] [] h9 := by
    intro h9 hF
    rw [ek33] at hF
    refine r_aload_n C dX11_plannedStone_33 rfl 0 rfl ?_
    exact k_aretX C dX11_plannedStone_34 hr (by first | exact Or.inl ⟨_, rfl⟩ | exact Or.inr ⟨_, rfl⟩) (by decide) (by decide) hF
  refine r_icmp_eq (tgt := 33) C dX11_plannedStone_14 (by decide) hF (fun hF => ?_) (fun hF => ?_)
  · exact r_sub [0] rfl (Jk33  _ hF)
  · refine r_aload_n C dX11_plannedStone_17 rfl 1 rfl ?_
    refine k_gR C dX11_plannedStone_18 fd_X11_46 (by decide) hF (fun x10 hF => ?_)
    refine r_aload_n C dX11_plannedStone_21 rfl 0 rfl ?_
    obtain ⟨ht, hF⟩ := tst_some hF
    obtain ⟨r11, h12, hc13, hF⟩ := cl_some hF
    refine r_callV (As := [.ref r1]) C dX11_plannedStone_22 V hT cal_X10_layPlan cls_11 ml_X11_313 im_X10_layPlan se_X10_layPlan ht (by decide) rfl rfl (Nat.le_of_ble_eq_true rfl) (by decide) (by decide) (S_X10_layPlan _ _ hc13) ?_
    refine r_aload_n C dX11_plannedStone_25 rfl 0 rfl ?_
    refine r_aload_n C dX11_plannedStone_26 rfl 0 rfl ?_
    refine k_gI C dX11_plannedStone_27 fd_X11_220 (by decide) hF (fun x14 hF => ?_)
    refine k_pI C dX11_plannedStone_30 fd_X11_310 (fun z => by cases z) (by decide) hF (fun h15 hF => ?_)
    exact r_sub [0] rfl (Jk33  _ hF)
def F_X11_round (a0 : Nat) (a1 : Int32) (h0 : PM) : Option ((Nat ⊕ Int32) × PM) := tst h0 a0 12 (cx (F_X11_plannedStone a0 a1 h0) fun r1 h2 => gI h2 r1 9 11 fun x7 => some (.inr x7, h2))
set_option maxRecDepth 100000 in
set_option maxHeartbeats 4000000 in
theorem S_X11_round {a0 : Nat} {a1 : Int32} {h0 : PM} (r : Nat ⊕ Int32) (h' : PM) (hF : F_X11_round a0 a1 h0 = some (r, h')) : CX yX11_round cX11_round 2 (some .int) 1 6 8 [.ref a0, .int a1] h0 (rX (fun v => some (.int v)) r) h' := by
  obtain ⟨X, eX⟩ : ∃ X, X = (r, h') := ⟨_, rfl⟩
  rw [← eX] at hF
  have e1 : r = X.1 := by rw [eX]
  have e2 : h' = X.2 := by rw [eX]
  rw [e1, e2]
  clear eX e1 e2
  unfold F_X11_round at hF
  refine CX_of (by decide) (fun ρ => Nat.le_of_ble_eq_true rfl) rfl ?_
  intro p l e s m args below meth c D cy base ρ hT C V hE hr hnm
  refine r_aload_n C dX11_round_0 rfl 0 rfl ?_
  refine r_iload_n C dX11_round_1 rfl 1 rfl ?_
  obtain ⟨ht, hF⟩ := tst_some hF
  obtain ⟨rx4, h2, hc3, hx5, hk6⟩ := cx_some hF
  refine r_callVX (As := [.int a1]) C dX11_round_2 V hT hE cal_X11_plannedStone cls_12 ml_X11_230 im_X11_plannedStone se_X11_plannedStone ht (by decide) rfl rfl (Nat.le_of_ble_eq_true rfl) (by decide) (by decide) (S_X11_plannedStone _ _ hc3) (fun k9 e9 => hx5 k9 (rX_inl e9)) (fun v9 e9 => ?_)
  obtain ⟨r1, er, rfl⟩ := rX_inr e9
  have hF := hk6 r1 er
  refine k_gI C dX11_round_5 fd_X11_233 (by decide) hF (fun x7 hF => ?_)
  exact k_iretX C dX11_round_8 hr (by decide) (by decide) hF
def F_X11_plan (a0 : Nat) (a1 : Int32) (a2 : Int32) (h0 : PM) : Option ((Nat ⊕ Int32) × PM) := tst h0 a0 12 (cx (F_X11_plannedStone a0 a1 h0) fun r1 h2 => jn (fun  (h7 : PM) => some (.inr (-1), h7)) fun k24 => if a2 < 0 then (k24 h2) else (gI h2 r1 9 7 fun x8 => if x8 ≤ a2 then (k24 h2) else (if a2 < 8 then (gR h2 r1 9 12 fun x9 => aI h2 x9 a2 fun x10 => some (.inr x10, h2)) else (k24 h2))))
set_option maxRecDepth 100000 in
set_option maxHeartbeats 4000000 in
theorem S_X11_plan {a0 : Nat} {a1 : Int32} {a2 : Int32} {h0 : PM} (r : Nat ⊕ Int32) (h' : PM) (hF : F_X11_plan a0 a1 a2 h0 = some (r, h')) : CX yX11_plan cX11_plan 4 (some .int) 1 6 8 [.ref a0, .int a1, .int a2] h0 (rX (fun v => some (.int v)) r) h' := by
  obtain ⟨X, eX⟩ : ∃ X, X = (r, h') := ⟨_, rfl⟩
  rw [← eX] at hF
  have e1 : r = X.1 := by rw [eX]
  have e2 : h' = X.2 := by rw [eX]
  rw [e1, e2]
  clear eX e1 e2
  unfold F_X11_plan at hF
  refine CX_of (by decide) (fun ρ => Nat.le_of_ble_eq_true rfl) rfl ?_
  intro p l e s m args below meth c D cy base ρ hT C V hE hr hnm
  refine r_aload_n C dX11_plan_0 rfl 0 rfl ?_
  refine r_iload_n C dX11_plan_1 rfl 1 rfl ?_
  obtain ⟨ht, hF⟩ := tst_some hF
  obtain ⟨rx4, h2, hc3, hx5, hk6⟩ := cx_some hF
  refine r_callVX (As := [.int a1]) C dX11_plan_2 V hT hE cal_X11_plannedStone cls_12 ml_X11_230 im_X11_plannedStone se_X11_plannedStone ht (by decide) rfl rfl (Nat.le_of_ble_eq_true rfl) (by decide) (by decide) (S_X11_plannedStone _ _ hc3) (fun k9 e9 => hx5 k9 (rX_inl e9)) (fun v9 e9 => ?_)
  obtain ⟨r1, er, rfl⟩ := rX_inr e9
  have hF := hk6 r1 er
  refine r_astore_n C dX11_plan_5 rfl (by decide) rfl ?_
  refine r_iload_n C dX11_plan_6 rfl 3 rfl ?_
  obtain ⟨k24, ek24, hF⟩ := jn_some hF
  have Jk24 : ∀  (h7 : PM), k24 h7 = some X → WP p l e (rmN 1 6 8) s m args below meth c D cy base ρ h0 1 6 4 (QX D cy base ρ h0 (rX (fun v => some (.int v)) X.1) X.2 below args s 1 6) 24 [] [] h7 := by
    intro h7 hF
    rw [ek24] at hF
    refine r_iconst (v := (-1)) C dX11_plan_24 (by decide) ?_
    exact k_iretX C dX11_plan_25 hr (by decide) (by decide) hF
  refine r_if_lt (tgt := 24) C dX11_plan_7 (by decide) hF (fun hF => ?_) (fun hF => ?_)
  · exact r_sub [] rfl (Jk24  _ hF)
  · refine r_iload_n C dX11_plan_10 rfl 3 rfl ?_
    refine r_aload_n C dX11_plan_11 rfl 0 rfl ?_
    refine k_gI C dX11_plan_12 fd_X11_220 (by decide) hF (fun x8 hF => ?_)
    refine r_icmp_ge (tgt := 24) C dX11_plan_15 (by decide) hF (fun hF => ?_) (fun hF => ?_)
    · exact r_sub [] rfl (Jk24  _ hF)
    · refine r_iload_n C dX11_plan_18 rfl 3 rfl ?_
      refine r_bipush (v := 8) C dX11_plan_19 (by decide) ?_
      refine r_icmp_lt (tgt := 26) C dX11_plan_21 (by decide) hF (fun hF => ?_) (fun hF => ?_)
      · refine r_aload_n C dX11_plan_26 rfl 0 rfl ?_
        refine k_gRr C dX11_plan_27 fr_X11_234 (by decide) hF (fun x9 hF => ?_)
        refine r_iload_n C dX11_plan_30 rfl 3 rfl ?_
        refine k_aI C dX11_plan_31 hF (fun x10 hF => ?_)
        exact k_iretX C dX11_plan_32 hr (by decide) (by decide) hF
      · exact r_sub [] rfl (Jk24  _ hF)
def F_X11_polish (a0 : Nat) (a1 : Int32) (h0 : PM) : Option ((Nat ⊕ Int32) × PM) := tst h0 a0 12 (cx (F_X11_plannedStone a0 a1 h0) fun r1 h2 => gI h2 r1 9 3 fun x7 => if x7 = 0 then (gI h2 r1 9 7 fun x8 => if ¬ x8 = 0 then (tst h2 r1 9 (cl (F_X8_grind r1 h2) fun r9 h10 => gI h10 r1 9 2 fun x12 => some (.inr x12, h10))) else (some (.inr (-2), h2))) else (some (.inr (-1), h2)))
set_option maxRecDepth 100000 in
set_option maxHeartbeats 4000000 in
theorem S_X11_polish {a0 : Nat} {a1 : Int32} {h0 : PM} (r : Nat ⊕ Int32) (h' : PM) (hF : F_X11_polish a0 a1 h0 = some (r, h')) : CX yX11_polish cX11_polish 3 (some .int) 1 6 8 [.ref a0, .int a1] h0 (rX (fun v => some (.int v)) r) h' := by
  obtain ⟨X, eX⟩ : ∃ X, X = (r, h') := ⟨_, rfl⟩
  rw [← eX] at hF
  have e1 : r = X.1 := by rw [eX]
  have e2 : h' = X.2 := by rw [eX]
  rw [e1, e2]
  clear eX e1 e2
  unfold F_X11_polish at hF
  refine CX_of (by decide) (fun ρ => Nat.le_of_ble_eq_true rfl) rfl ?_
  intro p l e s m args below meth c D cy base ρ hT C V hE hr hnm
  refine r_aload_n C dX11_polish_0 rfl 0 rfl ?_
  refine r_iload_n C dX11_polish_1 rfl 1 rfl ?_
  obtain ⟨ht, hF⟩ := tst_some hF
  obtain ⟨rx4, h2, hc3, hx5, hk6⟩ := cx_some hF
  refine r_callVX (As := [.int a1]) C dX11_polish_2 V hT hE cal_X11_plannedStone cls_12 ml_X11_230 im_X11_plannedStone se_X11_plannedStone ht (by decide) rfl rfl (Nat.le_of_ble_eq_true rfl) (by decide) (by decide) (S_X11_plannedStone _ _ hc3) (fun k9 e9 => hx5 k9 (rX_inl e9)) (fun v9 e9 => ?_)
  obtain ⟨r1, er, rfl⟩ := rX_inr e9
  have hF := hk6 r1 er
  refine r_astore_n C dX11_polish_5 rfl (by decide) rfl ?_
  refine r_aload_n C dX11_polish_6 rfl 0 rfl ?_
  refine k_gI C dX11_polish_7 fd_X11_217 (by decide) hF (fun x7 hF => ?_)
  refine r_if_eq (tgt := 15) C dX11_polish_10 (by decide) hF (fun hF => ?_) (fun hF => ?_)
  · refine r_aload_n C dX11_polish_15 rfl 0 rfl ?_
    refine k_gI C dX11_polish_16 fd_X11_220 (by decide) hF (fun x8 hF => ?_)
    refine r_if_ne (tgt := 25) C dX11_polish_19 (by decide) hF (fun hF => ?_) (fun hF => ?_)
    · refine r_aload_n C dX11_polish_25 rfl 0 rfl ?_
      obtain ⟨ht, hF⟩ := tst_some hF
      obtain ⟨r9, h10, hc11, hF⟩ := cl_some hF
      refine r_callV (As := []) C dX11_polish_26 V hT cal_X8_grind cls_9 ml_X11_237 im_X8_grind se_X8_grind ht (by decide) rfl rfl (Nat.le_of_ble_eq_true rfl) (by decide) (by decide) (S_X8_grind _ _ hc11) ?_
      refine r_aload_n C dX11_polish_29 rfl 0 rfl ?_
      refine k_gI C dX11_polish_30 fd_X11_240 (by decide) hF (fun x12 hF => ?_)
      exact k_iretX C dX11_polish_33 hr (by decide) (by decide) hF
    · refine r_bipush (v := (-2)) C dX11_polish_22 (by decide) ?_
      exact k_iretX C dX11_polish_24 hr (by decide) (by decide) hF
  · refine r_iconst (v := (-1)) C dX11_polish_13 (by decide) ?_
    exact k_iretX C dX11_polish_14 hr (by decide) (by decide) hF
def F_X11_told (a0 : Nat) (a1 : Int32) (a2 : Int32) (h0 : PM) : Option ((Nat ⊕ Int32) × PM) := tst h0 a0 12 (cx (F_X11_stoneOf a0 a1 h0) fun r1 h2 => jn (fun  (h7 : PM) => some (.inl 2, h7)) fun k16 => if a2 < 0 then (k16 h2) else (if a2 ≤ 6 then (tst h2 r1 9 (cl (F_X8_tell r1 a2 h2) fun r8 h9 => some (.inr r8, h9))) else (k16 h2)))
set_option maxRecDepth 100000 in
set_option maxHeartbeats 4000000 in
theorem S_X11_told {a0 : Nat} {a1 : Int32} {a2 : Int32} {h0 : PM} (r : Nat ⊕ Int32) (h' : PM) (hF : F_X11_told a0 a1 a2 h0 = some (r, h')) : CX yX11_told cX11_told 4 (some .int) 2 12 7 [.ref a0, .int a1, .int a2] h0 (rX (fun v => some (.int v)) r) h' := by
  obtain ⟨X, eX⟩ : ∃ X, X = (r, h') := ⟨_, rfl⟩
  rw [← eX] at hF
  have e1 : r = X.1 := by rw [eX]
  have e2 : h' = X.2 := by rw [eX]
  rw [e1, e2]
  clear eX e1 e2
  unfold F_X11_told at hF
  refine CX_of (by decide) (fun ρ => Nat.le_of_ble_eq_true rfl) rfl ?_
  intro p l e s m args below meth c D cy base ρ hT C V hE hr hnm
  refine r_aload_n C dX11_told_0 rfl 0 rfl ?_
  refine r_iload_n C dX11_told_1 rfl 1 rfl ?_
  obtain ⟨ht, hF⟩ := tst_some hF
  obtain ⟨rx4, h2, hc3, hx5, hk6⟩ := cx_some hF
  refine r_callVX (As := [.int a1]) C dX11_told_2 V hT hE cal_X11_stoneOf cls_12 ml_X11_211 im_X11_stoneOf se_X11_stoneOf ht (by decide) rfl rfl (Nat.le_of_ble_eq_true rfl) (by decide) (by decide) (S_X11_stoneOf _ _ hc3) (fun k9 e9 => hx5 k9 (rX_inl e9)) (fun v9 e9 => ?_)
  obtain ⟨r1, er, rfl⟩ := rX_inr e9
  have hF := hk6 r1 er
  refine r_astore_n C dX11_told_5 rfl (by decide) rfl ?_
  refine r_iload_n C dX11_told_6 rfl 3 rfl ?_
  obtain ⟨k16, ek16, hF⟩ := jn_some hF
  have Jk16 : ∀  (h7 : PM), k16 h7 = some X → WP p l e (rmN 2 12 7) s m args below meth c D cy base ρ h0 1 6 4 (QX D cy base ρ h0 (rX (fun v => some (.int v)) X.1) X.2 below args s 2 12) 16 [] [] h7 := by
    intro h7 hF
    rw [ek16] at hF
    exact k_thr C V hT hE tk_X11_2_94_98 sx_X11_243 dX11_told_16 dX11_told_19 dX11_told_20 dX11_told_22 dX11_told_25 (by decide) (Nat.le_of_ble_eq_true rfl) (by decide) (by decide) hF
  refine r_if_lt (tgt := 16) C dX11_told_7 (by decide) hF (fun hF => ?_) (fun hF => ?_)
  · exact r_sub [] rfl (Jk16  _ hF)
  · refine r_iload_n C dX11_told_10 rfl 3 rfl ?_
    refine r_bipush (v := 6) C dX11_told_11 (by decide) ?_
    refine r_icmp_le (tgt := 26) C dX11_told_13 (by decide) hF (fun hF => ?_) (fun hF => ?_)
    · refine r_aload_n C dX11_told_26 rfl 0 rfl ?_
      refine r_iload_n C dX11_told_27 rfl 3 rfl ?_
      obtain ⟨ht, hF⟩ := tst_some hF
      obtain ⟨r8, h9, hc10, hF⟩ := cl_some hF
      refine r_callV (As := [.int a2]) C dX11_told_28 V hT cal_X8_tell cls_9 ml_X11_245 im_X8_tell se_X8_tell ht (by decide) rfl rfl (Nat.le_of_ble_eq_true rfl) (by decide) (by decide) (S_X8_tell _ _ hc10) ?_
      exact k_iretX C dX11_told_31 hr (by decide) (by decide) hF
    · exact r_sub [] rfl (Jk16  _ hF)
def F_X11_match (a0 : Nat) (h0 : PM) : Option (Int32 × PM) := gR h0 a0 12 7 fun x1 => gR h0 a0 12 2 fun x2 => tst h0 x1 3 (cl (F_X2_pairUp x1 x2 h0) fun r3 h4 => some (r3, h4))
set_option maxRecDepth 100000 in
set_option maxHeartbeats 4000000 in
theorem S_X11_match {a0 : Nat} {h0 : PM} (r : Int32) (h' : PM) (hF : F_X11_match a0 h0 = some (r, h')) : CN yX11_match cX11_match 1 (some .int) 0 0 5 [.ref a0] h0 (some (.int r)) h' := by
  obtain ⟨X, eX⟩ : ∃ X, X = (r, h') := ⟨_, rfl⟩
  rw [← eX] at hF
  have e1 : r = X.1 := by rw [eX]
  have e2 : h' = X.2 := by rw [eX]
  rw [e1, e2]
  clear eX e1 e2
  unfold F_X11_match at hF
  refine CN_of (by decide) (fun ρ => Nat.le_of_ble_eq_true rfl) rfl ?_
  intro p l e s m args below meth c D cy base ρ hT C V hr hnm
  refine r_aload_n C dX11_match_0 rfl 0 rfl ?_
  refine k_gR C dX11_match_1 fd_X11_53 (by decide) hF (fun x1 hF => ?_)
  refine r_aload_n C dX11_match_4 rfl 0 rfl ?_
  refine k_gR C dX11_match_5 fd_X11_19 (by decide) hF (fun x2 hF => ?_)
  obtain ⟨ht, hF⟩ := tst_some hF
  obtain ⟨r3, h4, hc5, hF⟩ := cl_some hF
  refine r_callV (As := [.ref x2]) C dX11_match_8 V hT cal_X2_pairUp cls_3 ml_X11_246 im_X2_pairUp se_X2_pairUp ht (by decide) rfl rfl (Nat.le_of_ble_eq_true rfl) (by decide) (by decide) (S_X2_pairUp _ _ hc5) ?_
  exact k_iret C dX11_match_11 hr (by decide) (by decide) hF
def F_X11_hasTaken_L2 (c0 : Nat) (c1 : Int64) (k60 : PM → Option (Int32 × PM)) (k52 : PM → Option (Int32 × PM)) : Nat → Int32 → PM → Option (Int32 × PM)
  | 0, _, _ => none
  | fu + 1, v3, h4 => gR h4 c0 12 2 fun x5 => tst h4 x5 0 (cl (F_Jx4a65c_size_8abf5 x5 h4) fun r6 h7 => if r6 ≤ v3 then (k60 h7) else (gR h7 c0 12 2 fun x9 => tst h7 x9 0 (cl (F_Jx4a65c_get_915e3 x9 v3 h7) fun r10 h11 => tst h11 r10 9 (cl (F_X11_holds c1 v3 h11) fun r13 h14 => jn (fun  (h16 : PM) => F_X11_hasTaken_L2 c0 c1 k60 k52 fu (v3 + 1) h16) fun k54 => if r13 = 0 then (k54 h14) else (gI h14 r10 9 5 fun x18 => if ¬ x18 = (-1) then (k52 h14) else (gI h14 r10 9 6 fun x19 => if x19 = (-1) then (k54 h14) else (k52 h14)))))))
def F_X11_hasTaken (a0 : Nat) (a1 : Int64) (h0 : PM) : Option (Int32 × PM) := jn (fun  (h1 : PM) => rz 0 h1) fun k60 => jn (fun  (h2 : PM) => rz 1 h2) fun k52 => F_X11_hasTaken_L2 a0 a1 k60 k52 LF 0 h0
set_option maxRecDepth 100000 in
set_option maxHeartbeats 4000000 in
theorem S_X11_hasTaken {a0 : Nat} {a1 : Int64} {h0 : PM} (r : Int32) (h' : PM) (hF : F_X11_hasTaken a0 a1 h0 = some (r, h')) : CN yX11_hasTaken cX11_hasTaken 5 (some .boolean) 0 0 3 [.ref a0, .long a1] h0 (some (.int r)) h' := by
  obtain ⟨X, eX⟩ : ∃ X, X = (r, h') := ⟨_, rfl⟩
  rw [← eX] at hF
  have e1 : r = X.1 := by rw [eX]
  have e2 : h' = X.2 := by rw [eX]
  rw [e1, e2]
  clear eX e1 e2
  unfold F_X11_hasTaken at hF
  refine CN_of (by decide) (fun ρ => Nat.le_of_ble_eq_true rfl) rfl ?_
  intro p l e s m args below meth c D cy base ρ hT C V hr hnm
  refine r_iconst (v := 0) C dX11_hasTaken_0 (by decide) ?_
  refine r_istore_n C dX11_hasTaken_1 rfl (by decide) rfl ?_
  obtain ⟨k60, ek60, hF⟩ := jn_some hF
  have Jk60 : ∀  (h1 : PM), k60 h1 = some X → WP p l e (rmN 0 0 3) s m args below meth c D cy base ρ h0 0 0 5 (MQ below (QR D cy base ρ h0 (some (.int X.1)) X.2) args s 0 0 (fun q => base ≤ q)) 60 [] [] h1 := by
    intro h1 hF
    rw [ek60] at hF
    refine r_iconst (v := 0) C dX11_hasTaken_60 (by decide) ?_
    exact k_zret C dX11_hasTaken_61 hr (by decide) (by decide) hF
  obtain ⟨k52, ek52, hF⟩ := jn_some hF
  have Jk52 : ∀  (h2 : PM), k52 h2 = some X → WP p l e (rmN 0 0 3) s m args below meth c D cy base ρ h0 0 0 5 (MQ below (QR D cy base ρ h0 (some (.int X.1)) X.2) args s 0 0 (fun q => base ≤ q)) 52 [] [] h2 := by
    intro h2 hF
    rw [ek52] at hF
    refine r_iconst (v := 1) C dX11_hasTaken_52 (by decide) ?_
    exact k_zret C dX11_hasTaken_53 hr (by decide) (by decide) hF
  have L2 : ∀ (fu : Nat) (v3 : Int32) (h4 : PM), F_X11_hasTaken_L2 a0 a1 k60 k52 fu v3 h4 = some X → WP p l e (rmN 0 0 3) s m args below meth c D cy base ρ h0 0 0 5 (MQ below (QR D cy base ρ h0 (some (.int X.1)) X.2) args s 0 0 (fun q => base ≤ q)) 2 [(0, .ref a0), (1, .long a1), (3, .int v3)] [] h4 := by
    intro fu
    induction fu with
    | zero => intro v3 h4 hF; rw [F_X11_hasTaken_L2.eq_1] at hF; cases hF
    | succ fu ih =>
      intro v3 h4 hF
      rw [F_X11_hasTaken_L2.eq_2] at hF
      refine r_iload_n C dX11_hasTaken_2 rfl 2 rfl ?_
      refine r_aload_n C dX11_hasTaken_3 rfl 0 rfl ?_
      refine k_gR C dX11_hasTaken_4 fd_X11_19 (by decide) hF (fun x5 hF => ?_)
      obtain ⟨ht, hF⟩ := tst_some hF
      obtain ⟨r6, h7, hc8, hF⟩ := cl_some hF
      refine r_callV (As := []) C dX11_hasTaken_7 V hT cal_Jx4a65c_size_8abf5 cls_0 ml_X11_68 im_Jx4a65c_size_8abf5 se_Jx4a65c_size_8abf5 ht (by decide) rfl rfl (Nat.le_of_ble_eq_true rfl) (by decide) (by decide) (S_Jx4a65c_size_8abf5 _ _ hc8) ?_
      refine r_icmp_ge (tgt := 60) C dX11_hasTaken_10 (by decide) hF (fun hF => ?_) (fun hF => ?_)
      · exact r_sub [] rfl (Jk60  _ hF)
      · refine r_aload_n C dX11_hasTaken_13 rfl 0 rfl ?_
        refine k_gR C dX11_hasTaken_14 fd_X11_19 (by decide) hF (fun x9 hF => ?_)
        refine r_iload_n C dX11_hasTaken_17 rfl 2 rfl ?_
        obtain ⟨ht, hF⟩ := tst_some hF
        obtain ⟨r10, h11, hc12, hF⟩ := cl_some hF
        refine r_callV (As := [.int v3]) C dX11_hasTaken_18 V hT cal_Jx4a65c_get_915e3 cls_0 ml_X11_166 im_Jx4a65c_get_915e3 se_Jx4a65c_get_915e3 ht (by decide) rfl rfl (Nat.le_of_ble_eq_true rfl) (by decide) (by decide) (S_Jx4a65c_get_915e3 _ _ hc12) ?_
        refine k_cast C dX11_hasTaken_21 cls_9 cn_X11_206 hF (fun hF => ?_)
        refine r_astore C dX11_hasTaken_24 (by decide) rfl ?_
        refine r_lload_n C dX11_hasTaken_26 rfl 2 rfl ?_
        refine r_iload_n C dX11_hasTaken_27 rfl 3 rfl ?_
        obtain ⟨r13, h14, hc15, hF⟩ := cl_some hF
        refine r_callS (As := [.long a1, .int v3]) C dX11_hasTaken_28 V hT cal_X11_holds ml_X11_263 sm_X11_holds (by decide) rfl rfl (Nat.le_of_ble_eq_true rfl) (by decide) (by decide) (S_X11_holds _ _ hc15) ?_
        obtain ⟨k54_16, ek54_16, hF⟩ := jn_some hF
        have Jk54_16 : ∀  (h17 : PM), k54_16 h17 = some X → WP p l e (rmN 0 0 3) s m args below meth c D cy base ρ h0 0 0 5 (MQ below (QR D cy base ρ h0 (some (.int X.1)) X.2) args s 0 0 (fun q => base ≤ q)) 54 [(0, .ref a0), (1, .long a1), (3, .int v3)] [] h17 := by
          intro h17 hF
          rw [ek54_16] at hF
          refine r_iinc (v := v3 + 1) C dX11_hasTaken_54 2 rfl (congrArg (fun z => v3 + z) (by decide)) (by decide) rfl ?_
          refine r_goto (tgt := 2) C dX11_hasTaken_57 (by decide) ?_
          exact r_sub [1, 2, 0] rfl (ih _ _ hF)
        refine r_if_eq (tgt := 54) C dX11_hasTaken_31 (by decide) hF (fun hF => ?_) (fun hF => ?_)
        · exact r_sub [1, 2, 3] rfl (Jk54_16  _ hF)
        · refine r_aload C dX11_hasTaken_34 0 rfl ?_
          refine k_gI C dX11_hasTaken_36 fd_X11_267 (by decide) hF (fun x19 hF => ?_)
          refine r_iconst (v := (-1)) C dX11_hasTaken_39 (by decide) ?_
          refine r_icmp_ne (tgt := 52) C dX11_hasTaken_40 (by decide) hF (fun hF => ?_) (fun hF => ?_)
          · exact r_sub [] rfl (Jk52  _ hF)
          · refine r_aload C dX11_hasTaken_43 0 rfl ?_
            refine k_gI C dX11_hasTaken_45 fd_X11_293 (by decide) hF (fun x20 hF => ?_)
            refine r_iconst (v := (-1)) C dX11_hasTaken_48 (by decide) ?_
            refine r_icmp_eq (tgt := 54) C dX11_hasTaken_49 (by decide) hF (fun hF => ?_) (fun hF => ?_)
            · exact r_sub [1, 2, 3] rfl (Jk54_16  _ hF)
            · exact r_sub [] rfl (Jk52  _ hF)
  exact r_sub [1, 2, 0] rfl (L2 _ _ _ hF)
def F_X11_partsPair_L2 (c0 : Nat) (c1 : Int64) (k60 : PM → Option (Int32 × PM)) (k52 : PM → Option (Int32 × PM)) : Nat → Int32 → PM → Option (Int32 × PM)
  | 0, _, _ => none
  | fu + 1, v3, h4 => gR h4 c0 12 2 fun x5 => tst h4 x5 0 (cl (F_Jx4a65c_size_8abf5 x5 h4) fun r6 h7 => if r6 ≤ v3 then (k60 h7) else (gR h7 c0 12 2 fun x9 => tst h7 x9 0 (cl (F_Jx4a65c_get_915e3 x9 v3 h7) fun r10 h11 => tst h11 r10 9 (gI h11 r10 9 4 fun x13 => cl (F_X11_holds c1 v3 h11) fun r14 h15 => jn (fun  (h17 : PM) => F_X11_partsPair_L2 c0 c1 k60 k52 fu (v3 + 1) h17) fun k54 => if r14 = 0 then (k54 h15) else (if x13 = (-1) then (k54 h15) else (cl (F_X11_holds c1 x13 h15) fun r19 h20 => if ¬ r19 = 0 then (k54 h20) else (k52 h20)))))))
def F_X11_partsPair (a0 : Nat) (a1 : Int64) (h0 : PM) : Option (Int32 × PM) := jn (fun  (h1 : PM) => rz 0 h1) fun k60 => jn (fun  (h2 : PM) => rz 1 h2) fun k52 => F_X11_partsPair_L2 a0 a1 k60 k52 LF 0 h0
set_option maxRecDepth 100000 in
set_option maxHeartbeats 4000000 in
theorem S_X11_partsPair {a0 : Nat} {a1 : Int64} {h0 : PM} (r : Int32) (h' : PM) (hF : F_X11_partsPair a0 a1 h0 = some (r, h')) : CN yX11_partsPair cX11_partsPair 5 (some .boolean) 0 0 3 [.ref a0, .long a1] h0 (some (.int r)) h' := by
  obtain ⟨X, eX⟩ : ∃ X, X = (r, h') := ⟨_, rfl⟩
  rw [← eX] at hF
  have e1 : r = X.1 := by rw [eX]
  have e2 : h' = X.2 := by rw [eX]
  rw [e1, e2]
  clear eX e1 e2
  unfold F_X11_partsPair at hF
  refine CN_of (by decide) (fun ρ => Nat.le_of_ble_eq_true rfl) rfl ?_
  intro p l e s m args below meth c D cy base ρ hT C V hr hnm
  refine r_iconst (v := 0) C dX11_partsPair_0 (by decide) ?_
  refine r_istore_n C dX11_partsPair_1 rfl (by decide) rfl ?_
  obtain ⟨k60, ek60, hF⟩ := jn_some hF
  have Jk60 : ∀  (h1 : PM), k60 h1 = some X → WP p l e (rmN 0 0 3) s m args below meth c D cy base ρ h0 0 0 5 (MQ below (QR D cy base ρ h0 (some (.int X.1)) X.2) args s 0 0 (fun q => base ≤ q)) 60 [] [] h1 := by
    intro h1 hF
    rw [ek60] at hF
    refine r_iconst (v := 0) C dX11_partsPair_60 (by decide) ?_
    exact k_zret C dX11_partsPair_61 hr (by decide) (by decide) hF
  obtain ⟨k52, ek52, hF⟩ := jn_some hF
  have Jk52 : ∀  (h2 : PM), k52 h2 = some X → WP p l e (rmN 0 0 3) s m args below meth c D cy base ρ h0 0 0 5 (MQ below (QR D cy base ρ h0 (some (.int X.1)) X.2) args s 0 0 (fun q => base ≤ q)) 52 [] [] h2 := by
    intro h2 hF
    rw [ek52] at hF
    refine r_iconst (v := 1) C dX11_partsPair_52 (by decide) ?_
    exact k_zret C dX11_partsPair_53 hr (by decide) (by decide) hF
  have L2 : ∀ (fu : Nat) (v3 : Int32) (h4 : PM), F_X11_partsPair_L2 a0 a1 k60 k52 fu v3 h4 = some X → WP p l e (rmN 0 0 3) s m args below meth c D cy base ρ h0 0 0 5 (MQ below (QR D cy base ρ h0 (some (.int X.1)) X.2) args s 0 0 (fun q => base ≤ q)) 2 [(0, .ref a0), (1, .long a1), (3, .int v3)] [] h4 := by
    intro fu
    induction fu with
    | zero => intro v3 h4 hF; rw [F_X11_partsPair_L2.eq_1] at hF; cases hF
    | succ fu ih =>
      intro v3 h4 hF
      rw [F_X11_partsPair_L2.eq_2] at hF
      refine r_iload_n C dX11_partsPair_2 rfl 2 rfl ?_
      refine r_aload_n C dX11_partsPair_3 rfl 0 rfl ?_
      refine k_gR C dX11_partsPair_4 fd_X11_19 (by decide) hF (fun x5 hF => ?_)
      obtain ⟨ht, hF⟩ := tst_some hF
      obtain ⟨r6, h7, hc8, hF⟩ := cl_some hF
      refine r_callV (As := []) C dX11_partsPair_7 V hT cal_Jx4a65c_size_8abf5 cls_0 ml_X11_68 im_Jx4a65c_size_8abf5 se_Jx4a65c_size_8abf5 ht (by decide) rfl rfl (Nat.le_of_ble_eq_true rfl) (by decide) (by decide) (S_Jx4a65c_size_8abf5 _ _ hc8) ?_
      refine r_icmp_ge (tgt := 60) C dX11_partsPair_10 (by decide) hF (fun hF => ?_) (fun hF => ?_)
      · exact r_sub [] rfl (Jk60  _ hF)
      · refine r_aload_n C dX11_partsPair_13 rfl 0 rfl ?_
        refine k_gR C dX11_partsPair_14 fd_X11_19 (by decide) hF (fun x9 hF => ?_)
        refine r_iload_n C dX11_partsPair_17 rfl 2 rfl ?_
        obtain ⟨ht, hF⟩ := tst_some hF
        obtain ⟨r10, h11, hc12, hF⟩ := cl_some hF
        refine r_callV (As := [.int v3]) C dX11_partsPair_18 V hT cal_Jx4a65c_get_915e3 cls_0 ml_X11_166 im_Jx4a65c_get_915e3 se_Jx4a65c_get_915e3 ht (by decide) rfl rfl (Nat.le_of_ble_eq_true rfl) (by decide) (by decide) (S_Jx4a65c_get_915e3 _ _ hc12) ?_
        refine k_cast C dX11_partsPair_21 cls_9 cn_X11_206 hF (fun hF => ?_)
        refine k_gI C dX11_partsPair_24 fd_X11_320 (by decide) hF (fun x13 hF => ?_)
        refine r_istore C dX11_partsPair_27 (by decide) rfl ?_
        refine r_lload_n C dX11_partsPair_29 rfl 2 rfl ?_
        refine r_iload_n C dX11_partsPair_30 rfl 3 rfl ?_
        obtain ⟨r14, h15, hc16, hF⟩ := cl_some hF
        refine r_callS (As := [.long a1, .int v3]) C dX11_partsPair_31 V hT cal_X11_holds ml_X11_263 sm_X11_holds (by decide) rfl rfl (Nat.le_of_ble_eq_true rfl) (by decide) (by decide) (S_X11_holds _ _ hc16) ?_
        obtain ⟨k54_17, ek54_17, hF⟩ := jn_some hF
        have Jk54_17 : ∀  (h18 : PM), k54_17 h18 = some X → WP p l e (rmN 0 0 3) s m args below meth c D cy base ρ h0 0 0 5 (MQ below (QR D cy base ρ h0 (some (.int X.1)) X.2) args s 0 0 (fun q => base ≤ q)) 54 [(0, .ref a0), (1, .long a1), (3, .int v3)] [] h18 := by
          intro h18 hF
          rw [ek54_17] at hF
          refine r_iinc (v := v3 + 1) C dX11_partsPair_54 2 rfl (congrArg (fun z => v3 + z) (by decide)) (by decide) rfl ?_
          refine r_goto (tgt := 2) C dX11_partsPair_57 (by decide) ?_
          exact r_sub [1, 2, 0] rfl (ih _ _ hF)
        refine r_if_eq (tgt := 54) C dX11_partsPair_34 (by decide) hF (fun hF => ?_) (fun hF => ?_)
        · exact r_sub [1, 2, 3] rfl (Jk54_17  _ hF)
        · refine r_iload C dX11_partsPair_37 0 rfl ?_
          refine r_iconst (v := (-1)) C dX11_partsPair_39 (by decide) ?_
          refine r_icmp_eq (tgt := 54) C dX11_partsPair_40 (by decide) hF (fun hF => ?_) (fun hF => ?_)
          · exact r_sub [1, 2, 3] rfl (Jk54_17  _ hF)
          · refine r_lload_n C dX11_partsPair_43 rfl 2 rfl ?_
            refine r_iload C dX11_partsPair_44 0 rfl ?_
            obtain ⟨r20, h21, hc22, hF⟩ := cl_some hF
            refine r_callS (As := [.long a1, .int x13]) C dX11_partsPair_46 V hT cal_X11_holds ml_X11_263 sm_X11_holds (by decide) rfl rfl (Nat.le_of_ble_eq_true rfl) (by decide) (by decide) (S_X11_holds _ _ hc22) ?_
            refine r_if_ne (tgt := 54) C dX11_partsPair_49 (by decide) hF (fun hF => ?_) (fun hF => ?_)
            · exact r_sub [1, 2, 3] rfl (Jk54_17  _ hF)
            · exact r_sub [] rfl (Jk52  _ hF)
  exact r_sub [1, 2, 0] rfl (L2 _ _ _ hF)
def F_X11_stoneBits (a0 : Nat) (a1 : Int32) (a2 : Int32) (h0 : PM) : Option ((Nat ⊕ Int64) × PM) := lt_ ((Int32.toInt64 a1) ||| ((Int32.toInt64 a2) <<< ((Int32.toInt64 20) &&& 63))) fun x1 => jn (fun  (h2 : PM) => some (.inl 2, h2)) fun k41 => if ¬ (a1 &&& (-1048576)) = 0 then (k41 h0) else (if ¬ (a2 &&& (-1048576)) = 0 then (k41 h0) else (gR h0 a0 12 2 fun x3 => tst h0 x3 0 (cl (F_Jx4a65c_size_8abf5 x3 h0) fun r4 h5 => if (lg_cmp ((Int64.toUInt64 x1 >>> ((Int32.toInt64 r4).toUInt64 &&& Int64.toUInt64 63)).toInt64) 0) = 0 then (some (.inr x1, h5)) else (k41 h5))))
set_option maxRecDepth 100000 in
set_option maxHeartbeats 4000000 in
theorem S_X11_stoneBits {a0 : Nat} {a1 : Int32} {a2 : Int32} {h0 : PM} (r : Nat ⊕ Int64) (h' : PM) (hF : F_X11_stoneBits a0 a1 a2 h0 = some (r, h')) : CX yX11_stoneBits cX11_stoneBits 6 (some .long) 1 6 6 [.ref a0, .int a1, .int a2] h0 (rX (fun v => some (.long v)) r) h' := by
  obtain ⟨X, eX⟩ : ∃ X, X = (r, h') := ⟨_, rfl⟩
  rw [← eX] at hF
  have e1 : r = X.1 := by rw [eX]
  have e2 : h' = X.2 := by rw [eX]
  rw [e1, e2]
  clear eX e1 e2
  unfold F_X11_stoneBits at hF
  refine CX_of (by decide) (fun ρ => Nat.le_of_ble_eq_true rfl) rfl ?_
  intro p l e s m args below meth c D cy base ρ hT C V hE hr hnm
  refine r_ldcw C dX11_stoneBits_0 ct_X11_317 ?_
  refine r_istore_n C dX11_stoneBits_3 rfl (by decide) rfl ?_
  refine r_iload_n C dX11_stoneBits_4 rfl 2 rfl ?_
  refine r_i2l C dX11_stoneBits_5 ?_
  refine r_iload_n C dX11_stoneBits_6 rfl 3 rfl ?_
  refine r_i2l C dX11_stoneBits_7 ?_
  refine r_bipush (v := 20) C dX11_stoneBits_8 (by decide) ?_
  refine r_lshl C dX11_stoneBits_10 ?_
  refine r_lor C dX11_stoneBits_11 ?_
  refine k_ltl hF (fun x1 hF => ?_)
  refine r_lstore C dX11_stoneBits_12 (by decide) rfl ?_
  refine r_iload_n C dX11_stoneBits_14 rfl 3 rfl ?_
  refine r_iload_n C dX11_stoneBits_15 rfl 1 rfl ?_
  refine r_iand C dX11_stoneBits_16 ?_
  obtain ⟨k41, ek41, hF⟩ := jn_some hF
  have Jk41 : ∀  (h2 : PM), k41 h2 = some X → WP p l e (rmN 1 6 6) s m args below meth c D cy base ρ h0 0 0 6 (QX D cy base ρ h0 (rX (fun v => some (.long v)) X.1) X.2 below args s 1 6) 41 [] [] h2 := by
    intro h2 hF
    rw [ek41] at hF
    exact k_thrW C V hT hE tk_X11_2_94_98 sx_X11_318 dX11_stoneBits_41 dX11_stoneBits_44 dX11_stoneBits_45 dX11_stoneBits_48 dX11_stoneBits_51 (by decide) (Nat.le_of_ble_eq_true rfl) (by decide) (by decide) hF
  refine r_if_ne (tgt := 41) C dX11_stoneBits_17 (by decide) hF (fun hF => ?_) (fun hF => ?_)
  · exact r_sub [] rfl (Jk41  _ hF)
  · refine r_iload_n C dX11_stoneBits_20 rfl 4 rfl ?_
    refine r_iload_n C dX11_stoneBits_21 rfl 1 rfl ?_
    refine r_iand C dX11_stoneBits_22 ?_
    refine r_if_ne (tgt := 41) C dX11_stoneBits_23 (by decide) hF (fun hF => ?_) (fun hF => ?_)
    · exact r_sub [] rfl (Jk41  _ hF)
    · refine r_lload C dX11_stoneBits_26 0 rfl ?_
      refine r_aload_n C dX11_stoneBits_28 rfl 2 rfl ?_
      refine k_gR C dX11_stoneBits_29 fd_X11_19 (by decide) hF (fun x3 hF => ?_)
      obtain ⟨ht, hF⟩ := tst_some hF
      obtain ⟨r4, h5, hc6, hF⟩ := cl_some hF
      refine r_callV (As := []) C dX11_stoneBits_32 V hT cal_Jx4a65c_size_8abf5 cls_0 ml_X11_68 im_Jx4a65c_size_8abf5 se_Jx4a65c_size_8abf5 ht (by decide) rfl rfl (Nat.le_of_ble_eq_true rfl) (by decide) (by decide) (S_Jx4a65c_size_8abf5 _ _ hc6) ?_
      refine r_lushr C dX11_stoneBits_35 ?_
      refine r_lconst (v := 0) C dX11_stoneBits_36 (by decide) ?_
      refine r_lcmp C dX11_stoneBits_37 ?_
      refine r_if_eq (tgt := 52) C dX11_stoneBits_38 (by decide) hF (fun hF => ?_) (fun hF => ?_)
      · refine r_lload C dX11_stoneBits_52 0 rfl ?_
        exact k_lretX C dX11_stoneBits_54 hr (by decide) (by decide) hF
      · exact r_sub [] rfl (Jk41  _ hF)
def F_X11_lot_L90 (c0 : Nat) (c3 : Int64) (c6 : Int32) (k134 : PM → Option ((Nat ⊕ Int32) × PM)) : Nat → Int32 → PM → Option ((Nat ⊕ Int32) × PM)
  | 0, _, _ => none
  | fu + 1, v25, h26 => gR h26 c0 12 2 fun x27 => tst h26 x27 0 (cl (F_Jx4a65c_size_8abf5 x27 h26) fun r28 h29 => if r28 ≤ v25 then (k134 h29) else (cl (F_X11_holds c3 v25 h29) fun r31 h32 => jn (fun  (h34 : PM) => F_X11_lot_L90 c0 c3 c6 k134 fu (v25 + 1) h34) fun k128 => if r31 = 0 then (k128 h32) else (gR h32 c0 12 2 fun x36 => tst h32 x36 0 (cl (F_Jx4a65c_get_915e3 x36 v25 h32) fun r37 h38 => tst h38 r37 9 (pI h38 r37 9 5 c6 fun h40 => k128 h40)))))
def F_X11_lot (a0 : Nat) (a1 : Int32) (a2 : Int32) (h0 : PM) : Option ((Nat ⊕ Int32) × PM) := tst h0 a0 12 (cx (F_X11_stoneBits a0 a1 a2 h0) fun r1 h2 => cl (F_J13_bitCount_95d88 r1 h2) fun r7 h8 => jn (fun  (h10 : PM) => some (.inr (-1), h10)) fun k26 => if r7 < 1 then (k26 h8) else (if r7 ≤ 10 then (tst h8 a0 12 (cl (F_X11_hasTaken a0 r1 h8) fun r11 h12 => if r11 = 0 then (tst h12 a0 12 (cl (F_X11_partsPair a0 r1 h12) fun r14 h15 => if r14 = 0 then (gR h15 a0 12 8 fun x17 => gI h15 x17 1 6 fun x18 => if x18 < 6 then (gR h15 a0 12 8 fun x19 => gI h15 x19 1 6 fun x20 => gR h15 a0 12 8 fun x21 => gI h15 x21 1 6 fun x22 => pI h15 x21 1 6 (x22 + 1) fun h23 => jn (fun  (h24 : PM) => some (.inr x20, h24)) fun k134 => F_X11_lot_L90 a0 r1 x20 k134 LF 0 h23) else (some (.inr (-4), h15))) else (some (.inr (-3), h15)))) else (some (.inr (-2), h12)))) else (k26 h8)))
set_option maxRecDepth 100000 in
set_option maxHeartbeats 4000000 in
theorem S_X11_lot {a0 : Nat} {a1 : Int32} {a2 : Int32} {h0 : PM} (r : Nat ⊕ Int32) (h' : PM) (hF : F_X11_lot a0 a1 a2 h0 = some (r, h')) : CX yX11_lot cX11_lot 8 (some .int) 1 6 7 [.ref a0, .int a1, .int a2] h0 (rX (fun v => some (.int v)) r) h' := by
  obtain ⟨X, eX⟩ : ∃ X, X = (r, h') := ⟨_, rfl⟩
  rw [← eX] at hF
  have e1 : r = X.1 := by rw [eX]
  have e2 : h' = X.2 := by rw [eX]
  rw [e1, e2]
  clear eX e1 e2
  unfold F_X11_lot at hF
  refine CX_of (by decide) (fun ρ => Nat.le_of_ble_eq_true rfl) rfl ?_
  intro p l e s m args below meth c D cy base ρ hT C V hE hr hnm
  refine r_aload_n C dX11_lot_0 rfl 0 rfl ?_
  refine r_iload_n C dX11_lot_1 rfl 1 rfl ?_
  refine r_iload_n C dX11_lot_2 rfl 2 rfl ?_
  obtain ⟨ht, hF⟩ := tst_some hF
  obtain ⟨rx4, h2, hc3, hx5, hk6⟩ := cx_some hF
  refine r_callVX (As := [.int a1, .int a2]) C dX11_lot_3 V hT hE cal_X11_stoneBits cls_12 ml_X11_250 im_X11_stoneBits se_X11_stoneBits ht (by decide) rfl rfl (Nat.le_of_ble_eq_true rfl) (by decide) (by decide) (S_X11_stoneBits _ _ hc3) (fun k9 e9 => hx5 k9 (rX_inl e9)) (fun v9 e9 => ?_)
  obtain ⟨r1, er, rfl⟩ := rX_inr e9
  have hF := hk6 r1 er
  refine r_lstore_n C dX11_lot_6 rfl (by decide) rfl ?_
  refine r_lload_n C dX11_lot_7 rfl 0 rfl ?_
  obtain ⟨r7, h8, hc9, hF⟩ := cl_some hF
  refine r_callS (As := [.long r1]) C dX11_lot_8 V hT cal_J13_bitCount_95d88 ml_X11_109 sm_J13_bitCount_95d88 (by decide) rfl rfl (Nat.le_of_ble_eq_true rfl) (by decide) (by decide) (S_J13_bitCount_95d88 _ _ hc9) ?_
  refine r_istore C dX11_lot_11 (by decide) rfl ?_
  refine r_iload C dX11_lot_13 0 rfl ?_
  refine r_iconst (v := 1) C dX11_lot_15 (by decide) ?_
  obtain ⟨k26, ek26, hF⟩ := jn_some hF
  have Jk26 : ∀  (h10 : PM), k26 h10 = some X → WP p l e (rmN 1 6 7) s m args below meth c D cy base ρ h0 1 6 8 (QX D cy base ρ h0 (rX (fun v => some (.int v)) X.1) X.2 below args s 1 6) 26 [] [] h10 := by
    intro h10 hF
    rw [ek26] at hF
    refine r_iconst (v := (-1)) C dX11_lot_26 (by decide) ?_
    exact k_iretX C dX11_lot_27 hr (by decide) (by decide) hF
  refine r_icmp_lt (tgt := 26) C dX11_lot_16 (by decide) hF (fun hF => ?_) (fun hF => ?_)
  · exact r_sub [] rfl (Jk26  _ hF)
  · refine r_iload C dX11_lot_19 0 rfl ?_
    refine r_bipush (v := 10) C dX11_lot_21 (by decide) ?_
    refine r_icmp_le (tgt := 28) C dX11_lot_23 (by decide) hF (fun hF => ?_) (fun hF => ?_)
    · refine r_aload_n C dX11_lot_28 rfl 2 rfl ?_
      refine r_lload_n C dX11_lot_29 rfl 1 rfl ?_
      obtain ⟨ht, hF⟩ := tst_some hF
      obtain ⟨r11, h12, hc13, hF⟩ := cl_some hF
      refine r_callV (As := [.long r1]) C dX11_lot_30 V hT cal_X11_hasTaken cls_12 ml_X11_254 im_X11_hasTaken se_X11_hasTaken ht (by decide) rfl rfl (Nat.le_of_ble_eq_true rfl) (by decide) (by decide) (S_X11_hasTaken _ _ hc13) ?_
      refine r_if_eq (tgt := 39) C dX11_lot_33 (by decide) hF (fun hF => ?_) (fun hF => ?_)
      · refine r_aload_n C dX11_lot_39 rfl 2 rfl ?_
        refine r_lload_n C dX11_lot_40 rfl 1 rfl ?_
        obtain ⟨ht, hF⟩ := tst_some hF
        obtain ⟨r14, h15, hc16, hF⟩ := cl_some hF
        refine r_callV (As := [.long r1]) C dX11_lot_41 V hT cal_X11_partsPair cls_12 ml_X11_257 im_X11_partsPair se_X11_partsPair ht (by decide) rfl rfl (Nat.le_of_ble_eq_true rfl) (by decide) (by decide) (S_X11_partsPair _ _ hc16) ?_
        refine r_if_eq (tgt := 50) C dX11_lot_44 (by decide) hF (fun hF => ?_) (fun hF => ?_)
        · refine r_aload_n C dX11_lot_50 rfl 2 rfl ?_
          refine k_gR C dX11_lot_51 fd_X11_60 (by decide) hF (fun x17 hF => ?_)
          refine k_gI C dX11_lot_54 fd_X11_260 (by decide) hF (fun x18 hF => ?_)
          refine r_bipush (v := 6) C dX11_lot_57 (by decide) ?_
          refine r_icmp_lt (tgt := 65) C dX11_lot_59 (by decide) hF (fun hF => ?_) (fun hF => ?_)
          · refine r_aload_n C dX11_lot_65 rfl 2 rfl ?_
            refine k_gR C dX11_lot_66 fd_X11_60 (by decide) hF (fun x19 hF => ?_)
            refine k_gI C dX11_lot_69 fd_X11_260 (by decide) hF (fun x20 hF => ?_)
            refine r_istore C dX11_lot_72 (by decide) rfl ?_
            refine r_aload_n C dX11_lot_74 rfl 3 rfl ?_
            refine k_gR C dX11_lot_75 fd_X11_60 (by decide) hF (fun x21 hF => ?_)
            refine r_dup C dX11_lot_78 rfl ?_
            refine k_gI C dX11_lot_79 fd_X11_260 (by decide) hF (fun x22 hF => ?_)
            refine r_iconst (v := 1) C dX11_lot_82 (by decide) ?_
            refine r_iadd C dX11_lot_83 ?_
            refine k_pI C dX11_lot_84 fd_X11_260 (fun z => by cases z) (by decide) hF (fun h23 hF => ?_)
            refine r_iconst (v := 0) C dX11_lot_87 (by decide) ?_
            refine r_istore C dX11_lot_88 (by decide) rfl ?_
            obtain ⟨k134, ek134, hF⟩ := jn_some hF
            have Jk134 : ∀  (h24 : PM), k134 h24 = some X → WP p l e (rmN 1 6 7) s m args below meth c D cy base ρ h0 1 6 8 (QX D cy base ρ h0 (rX (fun v => some (.int v)) X.1) X.2 below args s 1 6) 134 [(6, .int x20)] [] h24 := by
              intro h24 hF
              rw [ek134] at hF
              refine r_iload C dX11_lot_134 0 rfl ?_
              exact k_iretX C dX11_lot_136 hr (by decide) (by decide) hF
            have L90 : ∀ (fu : Nat) (v25 : Int32) (h26 : PM), F_X11_lot_L90 a0 r1 x20 k134 fu v25 h26 = some X → WP p l e (rmN 1 6 7) s m args below meth c D cy base ρ h0 1 6 8 (QX D cy base ρ h0 (rX (fun v => some (.int v)) X.1) X.2 below args s 1 6) 90 [(0, .ref a0), (3, .long r1), (6, .int x20), (7, .int v25)] [] h26 := by
              intro fu
              induction fu with
              | zero => intro v25 h26 hF; rw [F_X11_lot_L90.eq_1] at hF; cases hF
              | succ fu ih =>
                intro v25 h26 hF
                rw [F_X11_lot_L90.eq_2] at hF
                refine r_iload C dX11_lot_90 3 rfl ?_
                refine r_aload_n C dX11_lot_92 rfl 0 rfl ?_
                refine k_gR C dX11_lot_93 fd_X11_19 (by decide) hF (fun x27 hF => ?_)
                obtain ⟨ht, hF⟩ := tst_some hF
                obtain ⟨r28, h29, hc30, hF⟩ := cl_some hF
                refine r_callV (As := []) C dX11_lot_96 V hT cal_Jx4a65c_size_8abf5 cls_0 ml_X11_68 im_Jx4a65c_size_8abf5 se_Jx4a65c_size_8abf5 ht (by decide) rfl rfl (Nat.le_of_ble_eq_true rfl) (by decide) (by decide) (S_Jx4a65c_size_8abf5 _ _ hc30) ?_
                refine r_icmp_ge (tgt := 134) C dX11_lot_99 (by decide) hF (fun hF => ?_) (fun hF => ?_)
                · exact r_sub [2] rfl (Jk134  _ hF)
                · refine r_lload_n C dX11_lot_102 rfl 1 rfl ?_
                  refine r_iload C dX11_lot_103 3 rfl ?_
                  obtain ⟨r31, h32, hc33, hF⟩ := cl_some hF
                  refine r_callS (As := [.long r1, .int v25]) C dX11_lot_105 V hT cal_X11_holds ml_X11_263 sm_X11_holds (by decide) rfl rfl (Nat.le_of_ble_eq_true rfl) (by decide) (by decide) (S_X11_holds _ _ hc33) ?_
                  obtain ⟨k128_34, ek128_34, hF⟩ := jn_some hF
                  have Jk128_34 : ∀  (h35 : PM), k128_34 h35 = some X → WP p l e (rmN 1 6 7) s m args below meth c D cy base ρ h0 1 6 8 (QX D cy base ρ h0 (rX (fun v => some (.int v)) X.1) X.2 below args s 1 6) 128 [(0, .ref a0), (3, .long r1), (6, .int x20), (7, .int v25)] [] h35 := by
                    intro h35 hF
                    rw [ek128_34] at hF
                    refine r_iinc (v := v25 + 1) C dX11_lot_128 3 rfl (congrArg (fun z => v25 + z) (by decide)) (by decide) rfl ?_
                    refine r_goto (tgt := 90) C dX11_lot_131 (by decide) ?_
                    exact r_sub [1, 2, 3, 0] rfl (ih _ _ hF)
                  refine r_if_eq (tgt := 128) C dX11_lot_108 (by decide) hF (fun hF => ?_) (fun hF => ?_)
                  · exact Jk128_34  _ hF
                  · refine r_aload_n C dX11_lot_111 rfl 0 rfl ?_
                    refine k_gR C dX11_lot_112 fd_X11_19 (by decide) hF (fun x37 hF => ?_)
                    refine r_iload C dX11_lot_115 3 rfl ?_
                    obtain ⟨ht, hF⟩ := tst_some hF
                    obtain ⟨r38, h39, hc40, hF⟩ := cl_some hF
                    refine r_callV (As := [.int v25]) C dX11_lot_117 V hT cal_Jx4a65c_get_915e3 cls_0 ml_X11_166 im_Jx4a65c_get_915e3 se_Jx4a65c_get_915e3 ht (by decide) rfl rfl (Nat.le_of_ble_eq_true rfl) (by decide) (by decide) (S_Jx4a65c_get_915e3 _ _ hc40) ?_
                    refine k_cast C dX11_lot_120 cls_9 cn_X11_206 hF (fun hF => ?_)
                    refine r_iload C dX11_lot_123 2 rfl ?_
                    refine k_pI C dX11_lot_125 fd_X11_267 (fun z => by cases z) (by decide) hF (fun h41 hF => ?_)
                    exact Jk128_34  _ hF
            exact r_sub [4, 3, 1, 0] rfl (L90 _ _ _ hF)
          · refine r_bipush (v := (-4)) C dX11_lot_62 (by decide) ?_
            exact k_iretX C dX11_lot_64 hr (by decide) (by decide) hF
        · refine r_bipush (v := (-3)) C dX11_lot_47 (by decide) ?_
          exact k_iretX C dX11_lot_49 hr (by decide) (by decide) hF
      · refine r_bipush (v := (-2)) C dX11_lot_36 (by decide) ?_
        exact k_iretX C dX11_lot_38 hr (by decide) (by decide) hF
    · exact r_sub [] rfl (Jk26  _ hF)
def F_X11_refuseNoBidder (a0 : Int32) (h0 : PM) : Option ((Nat ⊕ Unit) × PM) := jn (fun  (h1 : PM) => some (.inl 1, h1)) fun k9 => if a0 < 0 then (k9 h0) else (if a0 < 4 then (some (.inr (), h0)) else (k9 h0))
set_option maxRecDepth 100000 in
set_option maxHeartbeats 4000000 in
theorem S_X11_refuseNoBidder {a0 : Int32} {h0 : PM} (r : Nat ⊕ Unit) (h' : PM) (hF : F_X11_refuseNoBidder a0 h0 = some (r, h')) : CX yX11_refuseNoBidder cX11_refuseNoBidder 1 none 1 6 6 [.int a0] h0 (rX (fun _ => none) r) h' := by
  obtain ⟨X, eX⟩ : ∃ X, X = (r, h') := ⟨_, rfl⟩
  rw [← eX] at hF
  have e1 : r = X.1 := by rw [eX]
  have e2 : h' = X.2 := by rw [eX]
  rw [e1, e2]
  clear eX e1 e2
  unfold F_X11_refuseNoBidder at hF
  refine CX_of (by decide) (fun ρ => Nat.le_of_ble_eq_true rfl) rfl ?_
  intro p l e s m args below meth c D cy base ρ hT C V hE hr hnm
  refine r_iload_n C dX11_refuseNoBidder_0 rfl 0 rfl ?_
  obtain ⟨k9, ek9, hF⟩ := jn_some hF
  have Jk9 : ∀  (h1 : PM), k9 h1 = some X → WP p l e (rmN 1 6 6) s m args below meth c D cy base ρ h0 0 0 1 (QX D cy base ρ h0 (rX (fun _ => none) X.1) X.2 below args s 1 6) 9 [] [] h1 := by
    intro h1 hF
    rw [ek9] at hF
    exact k_thrW C V hT hE tk_X11_1_83_87 sx_X11_323 dX11_refuseNoBidder_9 dX11_refuseNoBidder_12 dX11_refuseNoBidder_13 dX11_refuseNoBidder_16 dX11_refuseNoBidder_19 (by decide) (Nat.le_of_ble_eq_true rfl) (by decide) (by decide) hF
  refine r_if_lt (tgt := 9) C dX11_refuseNoBidder_1 (by decide) hF (fun hF => ?_) (fun hF => ?_)
  · exact r_sub [] rfl (Jk9  _ hF)
  · refine r_iload_n C dX11_refuseNoBidder_4 rfl 0 rfl ?_
    refine r_iconst (v := 4) C dX11_refuseNoBidder_5 (by decide) ?_
    refine r_icmp_lt (tgt := 20) C dX11_refuseNoBidder_6 (by decide) hF (fun hF => ?_) (fun hF => ?_)
    · exact k_vretX C dX11_refuseNoBidder_20 hr (by decide) (by decide) hF
    · exact r_sub [] rfl (Jk9  _ hF)
def F_X11_bid (a0 : Nat) (a1 : Int32) (a2 : Int32) (a3 : Int32) (h0 : PM) : Option ((Nat ⊕ Int32) × PM) := cx (F_X11_refuseNoBidder a1 h0) fun r1 h2 => jn (fun  (h7 : PM) => some (.inl 2, h7)) fun k19 => if a2 < 0 then (k19 h2) else (gR h2 a0 12 8 fun x8 => gI h2 x8 1 6 fun x9 => if a2 < x9 then (jn (fun  (h10 : PM) => some (.inl 2, h10)) fun k42 => if a3 < 1 then (k42 h2) else (if a3 ≤ 1000000 then (gR h2 a0 12 8 fun x11 => tst h2 x11 1 (cl (F_X0_seal x11 a1 a2 a3 h2) fun r12 h13 => jn (fun (s15 : Int32) (h16 : PM) => some (.inr s15, h16)) fun k71 => if r12 = 0 then (k71 (-1) h13) else (k71 1 h13))) else (k42 h2))) else (k19 h2))
set_option maxRecDepth 100000 in
set_option maxHeartbeats 4000000 in
theorem S_X11_bid {a0 : Nat} {a1 : Int32} {a2 : Int32} {a3 : Int32} {h0 : PM} (r : Nat ⊕ Int32) (h' : PM) (hF : F_X11_bid a0 a1 a2 a3 h0 = some (r, h')) : CX yX11_bid cX11_bid 4 (some .int) 2 12 7 [.ref a0, .int a1, .int a2, .int a3] h0 (rX (fun v => some (.int v)) r) h' := by
  obtain ⟨X, eX⟩ : ∃ X, X = (r, h') := ⟨_, rfl⟩
  rw [← eX] at hF
  have e1 : r = X.1 := by rw [eX]
  have e2 : h' = X.2 := by rw [eX]
  rw [e1, e2]
  clear eX e1 e2
  unfold F_X11_bid at hF
  refine CX_of (by decide) (fun ρ => Nat.le_of_ble_eq_true rfl) rfl ?_
  intro p l e s m args below meth c D cy base ρ hT C V hE hr hnm
  refine r_iload_n C dX11_bid_0 rfl 1 rfl ?_
  obtain ⟨rx4, h2, hc3, hx5, hk6⟩ := cx_some hF
  refine r_callSX (As := [.int a1]) C dX11_bid_1 V hT hE cal_X11_refuseNoBidder ml_X11_270 sm_X11_refuseNoBidder (by decide) rfl rfl (Nat.le_of_ble_eq_true rfl) (by decide) (by decide) (S_X11_refuseNoBidder _ _ hc3) (fun k9 e9 => hx5 k9 (rX_inl e9)) (fun v9 e9 => ?_)
  obtain ⟨r1, er, rfl⟩ := rX_inr e9
  have hF := hk6 r1 er
  refine r_iload_n C dX11_bid_4 rfl 2 rfl ?_
  obtain ⟨k19, ek19, hF⟩ := jn_some hF
  have Jk19 : ∀  (h7 : PM), k19 h7 = some X → WP p l e (rmN 2 12 7) s m args below meth c D cy base ρ h0 1 6 4 (QX D cy base ρ h0 (rX (fun v => some (.int v)) X.1) X.2 below args s 2 12) 19 [] [] h7 := by
    intro h7 hF
    rw [ek19] at hF
    exact k_thrW C V hT hE tk_X11_2_94_98 sx_X11_273 dX11_bid_19 dX11_bid_22 dX11_bid_23 dX11_bid_26 dX11_bid_29 (by decide) (Nat.le_of_ble_eq_true rfl) (by decide) (by decide) hF
  refine r_if_lt (tgt := 19) C dX11_bid_5 (by decide) hF (fun hF => ?_) (fun hF => ?_)
  · exact r_sub [] rfl (Jk19  _ hF)
  · refine r_iload_n C dX11_bid_8 rfl 2 rfl ?_
    refine r_aload_n C dX11_bid_9 rfl 0 rfl ?_
    refine k_gR C dX11_bid_10 fd_X11_60 (by decide) hF (fun x8 hF => ?_)
    refine k_gI C dX11_bid_13 fd_X11_260 (by decide) hF (fun x9 hF => ?_)
    refine r_icmp_lt (tgt := 30) C dX11_bid_16 (by decide) hF (fun hF => ?_) (fun hF => ?_)
    · refine r_iload_n C dX11_bid_30 rfl 3 rfl ?_
      refine r_iconst (v := 1) C dX11_bid_31 (by decide) ?_
      obtain ⟨k42, ek42, hF⟩ := jn_some hF
      have Jk42 : ∀  (h10 : PM), k42 h10 = some X → WP p l e (rmN 2 12 7) s m args below meth c D cy base ρ h0 1 6 4 (QX D cy base ρ h0 (rX (fun v => some (.int v)) X.1) X.2 below args s 2 12) 42 [] [] h10 := by
        intro h10 hF
        rw [ek42] at hF
        exact k_thrW C V hT hE tk_X11_2_94_98 sx_X11_276 dX11_bid_42 dX11_bid_45 dX11_bid_46 dX11_bid_49 dX11_bid_52 (by decide) (Nat.le_of_ble_eq_true rfl) (by decide) (by decide) hF
      refine r_icmp_lt (tgt := 42) C dX11_bid_32 (by decide) hF (fun hF => ?_) (fun hF => ?_)
      · exact r_sub [] rfl (Jk42  _ hF)
      · refine r_iload_n C dX11_bid_35 rfl 3 rfl ?_
        refine r_ldcw C dX11_bid_36 ct_X11_275 ?_
        refine r_icmp_le (tgt := 53) C dX11_bid_39 (by decide) hF (fun hF => ?_) (fun hF => ?_)
        · refine r_aload_n C dX11_bid_53 rfl 0 rfl ?_
          refine k_gR C dX11_bid_54 fd_X11_60 (by decide) hF (fun x11 hF => ?_)
          refine r_iload_n C dX11_bid_57 rfl 1 rfl ?_
          refine r_iload_n C dX11_bid_58 rfl 2 rfl ?_
          refine r_iload_n C dX11_bid_59 rfl 3 rfl ?_
          obtain ⟨ht, hF⟩ := tst_some hF
          obtain ⟨r12, h13, hc14, hF⟩ := cl_some hF
          refine r_callV (As := [.int a1, .int a2, .int a3]) C dX11_bid_60 V hT cal_X0_seal cls_1 ml_X11_278 im_X0_seal se_X0_seal ht (by decide) rfl rfl (Nat.le_of_ble_eq_true rfl) (by decide) (by decide) (S_X0_seal _ _ hc14) ?_
          obtain ⟨k71, ek71, hF⟩ := jn_some hF
          have Jk71 : ∀ (s15 : Int32) (h16 : PM), k71 s15 h16 = some X → WP p l e (rmN 2 12 7) s m args below meth c D cy base ρ h0 1 6 4 (QX D cy base ρ h0 (rX (fun v => some (.int v)) X.1) X.2 below args s 2 12) 71 [] [.int s15] h16 := by
            intro s15 h16 hF
            rw [ek71] at hF
            exact k_iretX C dX11_bid_71 hr (by decide) (by decide) hF
          refine r_if_eq (tgt := 70) C dX11_bid_63 (by decide) hF (fun hF => ?_) (fun hF => ?_)
          · refine r_iconst (v := (-1)) C dX11_bid_70 (by decide) ?_
            exact r_sub [] rfl (Jk71 _ _ hF)
          · refine r_iconst (v := 1) C dX11_bid_66 (by decide) ?_
            refine r_goto (tgt := 71) C dX11_bid_67 (by decide) ?_
            exact r_sub [] rfl (Jk71 _ _ hF)
        · exact r_sub [] rfl (Jk42  _ hF)
    · exact r_sub [] rfl (Jk19  _ hF)
def F_X11_most (a0 : Nat) (a1 : Int32) (a2 : Int32) (h0 : PM) : Option ((Nat ⊕ Int32) × PM) := cx (F_X11_refuseNoBidder a1 h0) fun r1 h2 => jn (fun  (h7 : PM) => some (.inl 2, h7)) fun k14 => if a2 < 0 then (k14 h2) else (if a2 ≤ 6 then (gR h2 a0 12 8 fun x8 => gR h2 x8 1 1 fun x9 => aI h2 x9 a1 fun x10 => gR h2 a0 12 8 fun x11 => gR h2 x11 1 1 fun x12 => sI h2 x12 a1 a2 fun h13 => some (.inr x10, h13)) else (k14 h2))
set_option maxRecDepth 100000 in
set_option maxHeartbeats 4000000 in
theorem S_X11_most {a0 : Nat} {a1 : Int32} {a2 : Int32} {h0 : PM} (r : Nat ⊕ Int32) (h' : PM) (hF : F_X11_most a0 a1 a2 h0 = some (r, h')) : CX yX11_most cX11_most 4 (some .int) 2 12 7 [.ref a0, .int a1, .int a2] h0 (rX (fun v => some (.int v)) r) h' := by
  obtain ⟨X, eX⟩ : ∃ X, X = (r, h') := ⟨_, rfl⟩
  rw [← eX] at hF
  have e1 : r = X.1 := by rw [eX]
  have e2 : h' = X.2 := by rw [eX]
  rw [e1, e2]
  clear eX e1 e2
  unfold F_X11_most at hF
  refine CX_of (by decide) (fun ρ => Nat.le_of_ble_eq_true rfl) rfl ?_
  intro p l e s m args below meth c D cy base ρ hT C V hE hr hnm
  refine r_iload_n C dX11_most_0 rfl 1 rfl ?_
  obtain ⟨rx4, h2, hc3, hx5, hk6⟩ := cx_some hF
  refine r_callSX (As := [.int a1]) C dX11_most_1 V hT hE cal_X11_refuseNoBidder ml_X11_270 sm_X11_refuseNoBidder (by decide) rfl rfl (Nat.le_of_ble_eq_true rfl) (by decide) (by decide) (S_X11_refuseNoBidder _ _ hc3) (fun k9 e9 => hx5 k9 (rX_inl e9)) (fun v9 e9 => ?_)
  obtain ⟨r1, er, rfl⟩ := rX_inr e9
  have hF := hk6 r1 er
  refine r_iload_n C dX11_most_4 rfl 2 rfl ?_
  obtain ⟨k14, ek14, hF⟩ := jn_some hF
  have Jk14 : ∀  (h7 : PM), k14 h7 = some X → WP p l e (rmN 2 12 7) s m args below meth c D cy base ρ h0 1 6 4 (QX D cy base ρ h0 (rX (fun v => some (.int v)) X.1) X.2 below args s 2 12) 14 [] [] h7 := by
    intro h7 hF
    rw [ek14] at hF
    exact k_thrW C V hT hE tk_X11_2_94_98 sx_X11_282 dX11_most_14 dX11_most_17 dX11_most_18 dX11_most_21 dX11_most_24 (by decide) (Nat.le_of_ble_eq_true rfl) (by decide) (by decide) hF
  refine r_if_lt (tgt := 14) C dX11_most_5 (by decide) hF (fun hF => ?_) (fun hF => ?_)
  · exact r_sub [] rfl (Jk14  _ hF)
  · refine r_iload_n C dX11_most_8 rfl 2 rfl ?_
    refine r_bipush (v := 6) C dX11_most_9 (by decide) ?_
    refine r_icmp_le (tgt := 25) C dX11_most_11 (by decide) hF (fun hF => ?_) (fun hF => ?_)
    · refine r_aload_n C dX11_most_25 rfl 0 rfl ?_
      refine k_gR C dX11_most_26 fd_X11_60 (by decide) hF (fun x8 hF => ?_)
      refine k_gRr C dX11_most_29 fr_X11_284 (by decide) hF (fun x9 hF => ?_)
      refine r_iload_n C dX11_most_32 rfl 1 rfl ?_
      refine k_aI C dX11_most_33 hF (fun x10 hF => ?_)
      refine r_istore_n C dX11_most_34 rfl (by decide) rfl ?_
      refine r_aload_n C dX11_most_35 rfl 1 rfl ?_
      refine k_gR C dX11_most_36 fd_X11_60 (by decide) hF (fun x11 hF => ?_)
      refine k_gRr C dX11_most_39 fr_X11_284 (by decide) hF (fun x12 hF => ?_)
      refine r_iload_n C dX11_most_42 rfl 2 rfl ?_
      refine r_iload_n C dX11_most_43 rfl 3 rfl ?_
      refine k_sI C dX11_most_44 hF (fun h13 hF => ?_)
      refine r_iload_n C dX11_most_45 rfl 0 rfl ?_
      exact k_iretX C dX11_most_46 hr (by decide) (by decide) hF
    · exact r_sub [] rfl (Jk14  _ hF)
def F_X11_sell_L10 (c0 : Nat) (c1 : Int32) (k67 : PM → Option (Int32 × PM)) : Nat → Int32 → PM → Option (Int32 × PM)
  | 0, _, _ => none
  | fu + 1, v12, h13 => gR h13 c0 12 2 fun x14 => tst h13 x14 0 (cl (F_Jx4a65c_size_8abf5 x14 h13) fun r15 h16 => if r15 ≤ v12 then (k67 h16) else (gR h16 c0 12 2 fun x18 => tst h16 x18 0 (cl (F_Jx4a65c_get_915e3 x18 v12 h16) fun r19 h20 => tst h20 r19 9 (gI h20 r19 9 5 fun x22 => jn (fun  (h23 : PM) => F_X11_sell_L10 c0 c1 k67 fu (v12 + 1) h23) fun k61 => if x22 = (-1) then (k61 h20) else (gR h20 c0 12 8 fun x25 => gI h20 r19 9 5 fun x26 => tst h20 x25 1 (cl (F_X0_winnerOf x25 x26 h20) fun r27 h28 => pI h28 r19 9 6 r27 fun h30 => pI h30 r19 9 5 (-1) fun h31 => k61 h31))))))
def F_X11_sell (a0 : Nat) (h0 : PM) : Option (Int32 × PM) := gR h0 a0 12 8 fun x1 => tst h0 x1 1 (cl (F_X0_giveAll x1 h0) fun r2 h3 => jn (fun  (h5 : PM) => gR h5 a0 12 8 fun x6 => tst h5 x6 1 (cl (F_X0_clear x6 h5) fun r7 h8 => gI h8 a0 12 9 fun x10 => pI h8 a0 12 9 (x10 + r2) fun h11 => some (r2, h11))) fun k67 => F_X11_sell_L10 a0 r2 k67 LF 0 h3)
set_option maxRecDepth 100000 in
set_option maxHeartbeats 4000000 in
theorem S_X11_sell {a0 : Nat} {h0 : PM} (r : Int32) (h' : PM) (hF : F_X11_sell a0 h0 = some (r, h')) : CN yX11_sell cX11_sell 4 (some .int) 0 0 12 [.ref a0] h0 (some (.int r)) h' := by
  obtain ⟨X, eX⟩ : ∃ X, X = (r, h') := ⟨_, rfl⟩
  rw [← eX] at hF
  have e1 : r = X.1 := by rw [eX]
  have e2 : h' = X.2 := by rw [eX]
  rw [e1, e2]
  clear eX e1 e2
  unfold F_X11_sell at hF
  refine CN_of (by decide) (fun ρ => Nat.le_of_ble_eq_true rfl) rfl ?_
  intro p l e s m args below meth c D cy base ρ hT C V hr hnm
  refine r_aload_n C dX11_sell_0 rfl 0 rfl ?_
  refine k_gR C dX11_sell_1 fd_X11_60 (by decide) hF (fun x1 hF => ?_)
  obtain ⟨ht, hF⟩ := tst_some hF
  obtain ⟨r2, h3, hc4, hF⟩ := cl_some hF
  refine r_callV (As := []) C dX11_sell_4 V hT cal_X0_giveAll cls_1 ml_X11_287 im_X0_giveAll se_X0_giveAll ht (by decide) rfl rfl (Nat.le_of_ble_eq_true rfl) (by decide) (by decide) (S_X0_giveAll _ _ hc4) ?_
  refine r_istore_n C dX11_sell_7 rfl (by decide) rfl ?_
  refine r_iconst (v := 0) C dX11_sell_8 (by decide) ?_
  refine r_istore_n C dX11_sell_9 rfl (by decide) rfl ?_
  obtain ⟨k67, ek67, hF⟩ := jn_some hF
  have Jk67 : ∀  (h5 : PM), k67 h5 = some X → WP p l e (rmN 0 0 12) s m args below meth c D cy base ρ h0 0 0 4 (MQ below (QR D cy base ρ h0 (some (.int X.1)) X.2) args s 0 0 (fun q => base ≤ q)) 67 [(0, .ref a0), (1, .int r2)] [] h5 := by
    intro h5 hF
    rw [ek67] at hF
    refine r_aload_n C dX11_sell_67 rfl 0 rfl ?_
    refine k_gR C dX11_sell_68 fd_X11_60 (by decide) hF (fun x6 hF => ?_)
    obtain ⟨ht, hF⟩ := tst_some hF
    obtain ⟨r7, h8, hc9, hF⟩ := cl_some hF
    refine r_callV (As := []) C dX11_sell_71 V hT cal_X0_clear cls_1 ml_X11_296 im_X0_clear se_X0_clear ht (by decide) rfl rfl (Nat.le_of_ble_eq_true rfl) (by decide) (by decide) (S_X0_clear _ _ hc9) ?_
    refine r_aload_n C dX11_sell_74 rfl 0 rfl ?_
    refine r_dup C dX11_sell_75 rfl ?_
    refine k_gI C dX11_sell_76 fd_X11_64 (by decide) hF (fun x10 hF => ?_)
    refine r_iload_n C dX11_sell_79 rfl 1 rfl ?_
    refine r_iadd C dX11_sell_80 ?_
    refine k_pI C dX11_sell_81 fd_X11_64 (fun z => by cases z) (by decide) hF (fun h11 hF => ?_)
    refine r_iload_n C dX11_sell_84 rfl 1 rfl ?_
    exact k_iret C dX11_sell_85 hr (by decide) (by decide) hF
  have L10 : ∀ (fu : Nat) (v12 : Int32) (h13 : PM), F_X11_sell_L10 a0 r2 k67 fu v12 h13 = some X → WP p l e (rmN 0 0 12) s m args below meth c D cy base ρ h0 0 0 4 (MQ below (QR D cy base ρ h0 (some (.int X.1)) X.2) args s 0 0 (fun q => base ≤ q)) 10 [(0, .ref a0), (1, .int r2), (2, .int v12)] [] h13 := by
    intro fu
    induction fu with
    | zero => intro v12 h13 hF; rw [F_X11_sell_L10.eq_1] at hF; cases hF
    | succ fu ih =>
      intro v12 h13 hF
      rw [F_X11_sell_L10.eq_2] at hF
      refine r_iload_n C dX11_sell_10 rfl 2 rfl ?_
      refine r_aload_n C dX11_sell_11 rfl 0 rfl ?_
      refine k_gR C dX11_sell_12 fd_X11_19 (by decide) hF (fun x14 hF => ?_)
      obtain ⟨ht, hF⟩ := tst_some hF
      obtain ⟨r15, h16, hc17, hF⟩ := cl_some hF
      refine r_callV (As := []) C dX11_sell_15 V hT cal_Jx4a65c_size_8abf5 cls_0 ml_X11_68 im_Jx4a65c_size_8abf5 se_Jx4a65c_size_8abf5 ht (by decide) rfl rfl (Nat.le_of_ble_eq_true rfl) (by decide) (by decide) (S_Jx4a65c_size_8abf5 _ _ hc17) ?_
      refine r_icmp_ge (tgt := 67) C dX11_sell_18 (by decide) hF (fun hF => ?_) (fun hF => ?_)
      · exact r_sub [0, 1] rfl (Jk67  _ hF)
      · refine r_aload_n C dX11_sell_21 rfl 0 rfl ?_
        refine k_gR C dX11_sell_22 fd_X11_19 (by decide) hF (fun x18 hF => ?_)
        refine r_iload_n C dX11_sell_25 rfl 2 rfl ?_
        obtain ⟨ht, hF⟩ := tst_some hF
        obtain ⟨r19, h20, hc21, hF⟩ := cl_some hF
        refine r_callV (As := [.int v12]) C dX11_sell_26 V hT cal_Jx4a65c_get_915e3 cls_0 ml_X11_166 im_Jx4a65c_get_915e3 se_Jx4a65c_get_915e3 ht (by decide) rfl rfl (Nat.le_of_ble_eq_true rfl) (by decide) (by decide) (S_Jx4a65c_get_915e3 _ _ hc21) ?_
        refine k_cast C dX11_sell_29 cls_9 cn_X11_206 hF (fun hF => ?_)
        refine r_astore_n C dX11_sell_32 rfl (by decide) rfl ?_
        refine r_aload_n C dX11_sell_33 rfl 0 rfl ?_
        refine k_gI C dX11_sell_34 fd_X11_267 (by decide) hF (fun x22 hF => ?_)
        refine r_iconst (v := (-1)) C dX11_sell_37 (by decide) ?_
        obtain ⟨k61_23, ek61_23, hF⟩ := jn_some hF
        have Jk61_23 : ∀  (h24 : PM), k61_23 h24 = some X → WP p l e (rmN 0 0 12) s m args below meth c D cy base ρ h0 0 0 4 (MQ below (QR D cy base ρ h0 (some (.int X.1)) X.2) args s 0 0 (fun q => base ≤ q)) 61 [(0, .ref a0), (1, .int r2), (2, .int v12)] [] h24 := by
          intro h24 hF
          rw [ek61_23] at hF
          refine r_iinc (v := v12 + 1) C dX11_sell_61 2 rfl (congrArg (fun z => v12 + z) (by decide)) (by decide) rfl ?_
          refine r_goto (tgt := 10) C dX11_sell_64 (by decide) ?_
          exact r_sub [1, 2, 0] rfl (ih _ _ hF)
        refine r_icmp_eq (tgt := 61) C dX11_sell_38 (by decide) hF (fun hF => ?_) (fun hF => ?_)
        · exact r_sub [1, 2, 3] rfl (Jk61_23  _ hF)
        · refine r_aload_n C dX11_sell_41 rfl 0 rfl ?_
          refine r_aload_n C dX11_sell_42 rfl 1 rfl ?_
          refine k_gR C dX11_sell_43 fd_X11_60 (by decide) hF (fun x26 hF => ?_)
          refine r_aload_n C dX11_sell_46 rfl 0 rfl ?_
          refine k_gI C dX11_sell_47 fd_X11_267 (by decide) hF (fun x27 hF => ?_)
          obtain ⟨ht, hF⟩ := tst_some hF
          obtain ⟨r28, h29, hc30, hF⟩ := cl_some hF
          refine r_callV (As := [.int x27]) C dX11_sell_50 V hT cal_X0_winnerOf cls_1 ml_X11_290 im_X0_winnerOf se_X0_winnerOf ht (by decide) rfl rfl (Nat.le_of_ble_eq_true rfl) (by decide) (by decide) (S_X0_winnerOf _ _ hc30) ?_
          refine k_pI C dX11_sell_53 fd_X11_293 (fun z => by cases z) (by decide) hF (fun h31 hF => ?_)
          refine r_aload_n C dX11_sell_56 rfl 0 rfl ?_
          refine r_iconst (v := (-1)) C dX11_sell_57 (by decide) ?_
          refine k_pI C dX11_sell_58 fd_X11_267 (fun z => by cases z) (by decide) hF (fun h32 hF => ?_)
          exact r_sub [1, 2, 3] rfl (Jk61_23  _ hF)
  exact r_sub [2, 1, 0] rfl (L10 _ _ _ hF)
def F_X11_soldStones_L4 (c0 : Nat) (k42 : Int32 → PM → Option (Int32 × PM)) : Nat → Int32 → Int32 → PM → Option (Int32 × PM)
  | 0, _, _, _ => none
  | fu + 1, v3, v4, h5 => gR h5 c0 12 2 fun x6 => tst h5 x6 0 (cl (F_Jx4a65c_size_8abf5 x6 h5) fun r7 h8 => if r7 ≤ v4 then (k42 v3 h8) else (gR h8 c0 12 2 fun x10 => tst h8 x10 0 (cl (F_Jx4a65c_get_915e3 x10 v4 h8) fun r11 h12 => tst h12 r11 9 (gI h12 r11 9 6 fun x14 => jn (fun (v15 : Int32) (h16 : PM) => F_X11_soldStones_L4 c0 k42 fu v15 (v4 + 1) h16) fun k36 => if x14 = (-1) then (k36 v3 h12) else (k36 (v3 + 1) h12)))))
def F_X11_soldStones (a0 : Nat) (h0 : PM) : Option (Int32 × PM) := jn (fun (v1 : Int32) (h2 : PM) => some (v1, h2)) fun k42 => F_X11_soldStones_L4 a0 k42 LF 0 0 h0
set_option maxRecDepth 100000 in
set_option maxHeartbeats 4000000 in
theorem S_X11_soldStones {a0 : Nat} {h0 : PM} (r : Int32) (h' : PM) (hF : F_X11_soldStones a0 h0 = some (r, h')) : CN yX11_soldStones cX11_soldStones 3 (some .int) 0 0 3 [.ref a0] h0 (some (.int r)) h' := by
  obtain ⟨X, eX⟩ : ∃ X, X = (r, h') := ⟨_, rfl⟩
  rw [← eX] at hF
  have e1 : r = X.1 := by rw [eX]
  have e2 : h' = X.2 := by rw [eX]
  rw [e1, e2]
  clear eX e1 e2
  unfold F_X11_soldStones at hF
  refine CN_of (by decide) (fun ρ => Nat.le_of_ble_eq_true rfl) rfl ?_
  intro p l e s m args below meth c D cy base ρ hT C V hr hnm
  refine r_iconst (v := 0) C dX11_soldStones_0 (by decide) ?_
  refine r_istore_n C dX11_soldStones_1 rfl (by decide) rfl ?_
  refine r_iconst (v := 0) C dX11_soldStones_2 (by decide) ?_
  refine r_istore_n C dX11_soldStones_3 rfl (by decide) rfl ?_
  obtain ⟨k42, ek42, hF⟩ := jn_some hF
  have Jk42 : ∀ (v1 : Int32) (h2 : PM), k42 v1 h2 = some X → WP p l e (rmN 0 0 3) s m args below meth c D cy base ρ h0 0 0 3 (MQ below (QR D cy base ρ h0 (some (.int X.1)) X.2) args s 0 0 (fun q => base ≤ q)) 42 [(1, .int v1)] [] h2 := by
    intro v1 h2 hF
    rw [ek42] at hF
    refine r_iload_n C dX11_soldStones_42 rfl 0 rfl ?_
    exact k_iret C dX11_soldStones_43 hr (by decide) (by decide) hF
  have L4 : ∀ (fu : Nat) (v3 : Int32) (v4 : Int32) (h5 : PM), F_X11_soldStones_L4 a0 k42 fu v3 v4 h5 = some X → WP p l e (rmN 0 0 3) s m args below meth c D cy base ρ h0 0 0 3 (MQ below (QR D cy base ρ h0 (some (.int X.1)) X.2) args s 0 0 (fun q => base ≤ q)) 4 [(0, .ref a0), (1, .int v3), (2, .int v4)] [] h5 := by
    intro fu
    induction fu with
    | zero => intro v3 v4 h5 hF; rw [F_X11_soldStones_L4.eq_1] at hF; cases hF
    | succ fu ih =>
      intro v3 v4 h5 hF
      rw [F_X11_soldStones_L4.eq_2] at hF
      refine r_iload_n C dX11_soldStones_4 rfl 2 rfl ?_
      refine r_aload_n C dX11_soldStones_5 rfl 0 rfl ?_
      refine k_gR C dX11_soldStones_6 fd_X11_19 (by decide) hF (fun x6 hF => ?_)
      obtain ⟨ht, hF⟩ := tst_some hF
      obtain ⟨r7, h8, hc9, hF⟩ := cl_some hF
      refine r_callV (As := []) C dX11_soldStones_9 V hT cal_Jx4a65c_size_8abf5 cls_0 ml_X11_68 im_Jx4a65c_size_8abf5 se_Jx4a65c_size_8abf5 ht (by decide) rfl rfl (Nat.le_of_ble_eq_true rfl) (by decide) (by decide) (S_Jx4a65c_size_8abf5 _ _ hc9) ?_
      refine r_icmp_ge (tgt := 42) C dX11_soldStones_12 (by decide) hF (fun hF => ?_) (fun hF => ?_)
      · exact r_sub [1] rfl (Jk42 _ _ hF)
      · refine r_aload_n C dX11_soldStones_15 rfl 0 rfl ?_
        refine k_gR C dX11_soldStones_16 fd_X11_19 (by decide) hF (fun x10 hF => ?_)
        refine r_iload_n C dX11_soldStones_19 rfl 2 rfl ?_
        obtain ⟨ht, hF⟩ := tst_some hF
        obtain ⟨r11, h12, hc13, hF⟩ := cl_some hF
        refine r_callV (As := [.int v4]) C dX11_soldStones_20 V hT cal_Jx4a65c_get_915e3 cls_0 ml_X11_166 im_Jx4a65c_get_915e3 se_Jx4a65c_get_915e3 ht (by decide) rfl rfl (Nat.le_of_ble_eq_true rfl) (by decide) (by decide) (S_Jx4a65c_get_915e3 _ _ hc13) ?_
        refine k_cast C dX11_soldStones_23 cls_9 cn_X11_206 hF (fun hF => ?_)
        refine k_gI C dX11_soldStones_26 fd_X11_293 (by decide) hF (fun x14 hF => ?_)
        refine r_iconst (v := (-1)) C dX11_soldStones_29 (by decide) ?_
        obtain ⟨k36_16, ek36_16, hF⟩ := jn_some hF
        have Jk36_16 : ∀ (v15 : Int32) (h17 : PM), k36_16 v15 h17 = some X → WP p l e (rmN 0 0 3) s m args below meth c D cy base ρ h0 0 0 3 (MQ below (QR D cy base ρ h0 (some (.int X.1)) X.2) args s 0 0 (fun q => base ≤ q)) 36 [(0, .ref a0), (1, .int v15), (2, .int v4)] [] h17 := by
          intro v15 h17 hF
          rw [ek36_16] at hF
          refine r_iinc (v := v4 + 1) C dX11_soldStones_36 2 rfl (congrArg (fun z => v4 + z) (by decide)) (by decide) rfl ?_
          refine r_goto (tgt := 4) C dX11_soldStones_39 (by decide) ?_
          exact r_sub [1, 2, 0] rfl (ih _ _ _ hF)
        refine r_icmp_eq (tgt := 36) C dX11_soldStones_30 (by decide) hF (fun hF => ?_) (fun hF => ?_)
        · exact Jk36_16 _ _ hF
        · refine r_iinc (v := v3 + 1) C dX11_soldStones_33 1 rfl (congrArg (fun z => v3 + z) (by decide)) (by decide) rfl ?_
          exact r_sub [1, 0, 2] rfl (Jk36_16 _ _ hF)
  exact r_sub [2, 1, 0] rfl (L4 _ _ _ _ hF)
def F_X11_count (a0 : Nat) (a1 : Int32) (h0 : PM) : Option (Int32 × PM) := if a1 = 0 then (gR h0 a0 12 0 fun x1 => tst h0 x1 0 (cl (F_Jx4a65c_size_8abf5 x1 h0) fun r2 h3 => some (r2, h3))) else (if a1 = 1 then (gR h0 a0 12 1 fun x5 => tst h0 x5 0 (cl (F_Jx4a65c_size_8abf5 x5 h0) fun r6 h7 => some (r6, h7))) else (if a1 = 2 then (gR h0 a0 12 2 fun x9 => tst h0 x9 0 (cl (F_Jx4a65c_size_8abf5 x9 h0) fun r10 h11 => some (r10, h11))) else (if a1 = 3 then (gR h0 a0 12 8 fun x13 => gI h0 x13 1 6 fun x14 => some (x14, h0)) else (if a1 = 4 then (gI h0 a0 12 9 fun x15 => some (x15, h0)) else (if a1 = 5 then (gR h0 a0 12 4 fun x16 => gI h0 x16 6 2 fun x17 => some (x17, h0)) else (if a1 = 6 then (gR h0 a0 12 3 fun x18 => gI h0 x18 10 1 fun x19 => some (x19, h0)) else (if a1 = 7 then (tst h0 a0 12 (cl (F_X11_soldStones a0 h0) fun r20 h21 => some (r20, h21))) else (some ((-1), h0)))))))))
set_option maxRecDepth 100000 in
set_option maxHeartbeats 4000000 in
theorem S_X11_count {a0 : Nat} {a1 : Int32} {h0 : PM} (r : Int32) (h' : PM) (hF : F_X11_count a0 a1 h0 = some (r, h')) : CN yX11_count cX11_count 2 (some .int) 0 0 4 [.ref a0, .int a1] h0 (some (.int r)) h' := by
  obtain ⟨X, eX⟩ : ∃ X, X = (r, h') := ⟨_, rfl⟩
  rw [← eX] at hF
  have e1 : r = X.1 := by rw [eX]
  have e2 : h' = X.2 := by rw [eX]
  rw [e1, e2]
  clear eX e1 e2
  unfold F_X11_count at hF
  refine CN_of (by decide) (fun ρ => Nat.le_of_ble_eq_true rfl) rfl ?_
  intro p l e s m args below meth c D cy base ρ hT C V hr hnm
  refine r_iload_n C dX11_count_0 rfl 1 rfl ?_
  by_cases q0 : a1 = 0
  · rw [if_pos q0] at hF
    refine r_tableIn (tgt := 48) C dX11_count_1 (by rw [q0]; decide) (by rw [q0]; decide) (by rw [q0] <;> rfl) (by decide) ?_
    refine r_aload_n C dX11_count_48 rfl 0 rfl ?_
    refine k_gR C dX11_count_49 fd_X11_12 (by decide) hF (fun x1 hF => ?_)
    obtain ⟨ht, hF⟩ := tst_some hF
    obtain ⟨r2, h3, hc4, hF⟩ := cl_some hF
    refine r_callV (As := []) C dX11_count_52 V hT cal_Jx4a65c_size_8abf5 cls_0 ml_X11_68 im_Jx4a65c_size_8abf5 se_Jx4a65c_size_8abf5 ht (by decide) rfl rfl (Nat.le_of_ble_eq_true rfl) (by decide) (by decide) (S_Jx4a65c_size_8abf5 _ _ hc4) ?_
    exact k_iret C dX11_count_55 hr (by decide) (by decide) hF
  rw [if_neg q0] at hF
  by_cases q1 : a1 = 1
  · rw [if_pos q1] at hF
    refine r_tableIn (tgt := 56) C dX11_count_1 (by rw [q1]; decide) (by rw [q1]; decide) (by rw [q1] <;> rfl) (by decide) ?_
    refine r_aload_n C dX11_count_56 rfl 0 rfl ?_
    refine k_gR C dX11_count_57 fd_X11_16 (by decide) hF (fun x5 hF => ?_)
    obtain ⟨ht, hF⟩ := tst_some hF
    obtain ⟨r6, h7, hc8, hF⟩ := cl_some hF
    refine r_callV (As := []) C dX11_count_60 V hT cal_Jx4a65c_size_8abf5 cls_0 ml_X11_68 im_Jx4a65c_size_8abf5 se_Jx4a65c_size_8abf5 ht (by decide) rfl rfl (Nat.le_of_ble_eq_true rfl) (by decide) (by decide) (S_Jx4a65c_size_8abf5 _ _ hc8) ?_
    exact k_iret C dX11_count_63 hr (by decide) (by decide) hF
  rw [if_neg q1] at hF
  by_cases q2 : a1 = 2
  · rw [if_pos q2] at hF
    refine r_tableIn (tgt := 64) C dX11_count_1 (by rw [q2]; decide) (by rw [q2]; decide) (by rw [q2] <;> rfl) (by decide) ?_
    refine r_aload_n C dX11_count_64 rfl 0 rfl ?_
    refine k_gR C dX11_count_65 fd_X11_19 (by decide) hF (fun x9 hF => ?_)
    obtain ⟨ht, hF⟩ := tst_some hF
    obtain ⟨r10, h11, hc12, hF⟩ := cl_some hF
    refine r_callV (As := []) C dX11_count_68 V hT cal_Jx4a65c_size_8abf5 cls_0 ml_X11_68 im_Jx4a65c_size_8abf5 se_Jx4a65c_size_8abf5 ht (by decide) rfl rfl (Nat.le_of_ble_eq_true rfl) (by decide) (by decide) (S_Jx4a65c_size_8abf5 _ _ hc12) ?_
    exact k_iret C dX11_count_71 hr (by decide) (by decide) hF
  rw [if_neg q2] at hF
  by_cases q3 : a1 = 3
  · rw [if_pos q3] at hF
    refine r_tableIn (tgt := 72) C dX11_count_1 (by rw [q3]; decide) (by rw [q3]; decide) (by rw [q3] <;> rfl) (by decide) ?_
    refine r_aload_n C dX11_count_72 rfl 0 rfl ?_
    refine k_gR C dX11_count_73 fd_X11_60 (by decide) hF (fun x13 hF => ?_)
    refine k_gI C dX11_count_76 fd_X11_260 (by decide) hF (fun x14 hF => ?_)
    exact k_iret C dX11_count_79 hr (by decide) (by decide) hF
  rw [if_neg q3] at hF
  by_cases q4 : a1 = 4
  · rw [if_pos q4] at hF
    refine r_tableIn (tgt := 80) C dX11_count_1 (by rw [q4]; decide) (by rw [q4]; decide) (by rw [q4] <;> rfl) (by decide) ?_
    refine r_aload_n C dX11_count_80 rfl 0 rfl ?_
    refine k_gI C dX11_count_81 fd_X11_64 (by decide) hF (fun x15 hF => ?_)
    exact k_iret C dX11_count_84 hr (by decide) (by decide) hF
  rw [if_neg q4] at hF
  by_cases q5 : a1 = 5
  · rw [if_pos q5] at hF
    refine r_tableIn (tgt := 85) C dX11_count_1 (by rw [q5]; decide) (by rw [q5]; decide) (by rw [q5] <;> rfl) (by decide) ?_
    refine r_aload_n C dX11_count_85 rfl 0 rfl ?_
    refine k_gR C dX11_count_86 fd_X11_32 (by decide) hF (fun x16 hF => ?_)
    refine k_gI C dX11_count_89 fd_X11_150 (by decide) hF (fun x17 hF => ?_)
    exact k_iret C dX11_count_92 hr (by decide) (by decide) hF
  rw [if_neg q5] at hF
  by_cases q6 : a1 = 6
  · rw [if_pos q6] at hF
    refine r_tableIn (tgt := 93) C dX11_count_1 (by rw [q6]; decide) (by rw [q6]; decide) (by rw [q6] <;> rfl) (by decide) ?_
    refine r_aload_n C dX11_count_93 rfl 0 rfl ?_
    refine k_gR C dX11_count_94 fd_X11_25 (by decide) hF (fun x18 hF => ?_)
    refine k_gI C dX11_count_97 fd_X11_115 (by decide) hF (fun x19 hF => ?_)
    exact k_iret C dX11_count_100 hr (by decide) (by decide) hF
  rw [if_neg q6] at hF
  by_cases q7 : a1 = 7
  · rw [if_pos q7] at hF
    refine r_tableIn (tgt := 101) C dX11_count_1 (by rw [q7]; decide) (by rw [q7]; decide) (by rw [q7] <;> rfl) (by decide) ?_
    refine r_aload_n C dX11_count_101 rfl 0 rfl ?_
    obtain ⟨ht, hF⟩ := tst_some hF
    obtain ⟨r20, h21, hc22, hF⟩ := cl_some hF
    refine r_callV (As := []) C dX11_count_102 V hT cal_X11_soldStones cls_12 ml_X11_299 im_X11_soldStones se_X11_soldStones ht (by decide) rfl rfl (Nat.le_of_ble_eq_true rfl) (by decide) (by decide) (S_X11_soldStones _ _ hc22) ?_
    exact k_iret C dX11_count_105 hr (by decide) (by decide) hF
  rw [if_neg q7] at hF
  refine r_tableOut (tgt := 106) C dX11_count_1 ?_ (by decide) ?_
  · have z0 := sw_ne q0; have z1 := sw_ne q1; have z2 := sw_ne q2; have z3 := sw_ne q3; have z4 := sw_ne q4; have z5 := sw_ne q5; have z6 := sw_ne q6; have z7 := sw_ne q7
    have w0 : ((0 : Int32)).toInt = 0 := (by decide); have w1 : ((1 : Int32)).toInt = 1 := (by decide); have w2 : ((2 : Int32)).toInt = 2 := (by decide); have w3 : ((3 : Int32)).toInt = 3 := (by decide); have w4 : ((4 : Int32)).toInt = 4 := (by decide); have w5 : ((5 : Int32)).toInt = 5 := (by decide); have w6 : ((6 : Int32)).toInt = 6 := (by decide); have w7 : ((7 : Int32)).toInt = 7 := (by decide)
    omega
  · refine r_iconst (v := (-1)) C dX11_count_106 (by decide) ?_
    exact k_iret C dX11_count_107 hr (by decide) (by decide) hF
