theorem ml_X12_242 : Cond.methodLink RX12 242 yX12_isStone ∈ gw := gwm 1476 (by decide +kernel) rfl
theorem cal_X12_isStone : Cal yX12_isStone cX12_isStone 2 (some .boolean) 1 := ⟨gwm 1479 (by decide +kernel) rfl, gwm 76 (by decide +kernel) rfl, ⟨by decide, by decide, by decide +kernel⟩, by decide⟩
theorem im_X12_isStone : Cond.instanceMethod yX12_isStone ∈ gw := gwm 1478 (by decide +kernel) rfl
theorem se_X12_isStone : Cond.selects RX12 yX12_isStone yX12_isStone ∈ gw := gwm 56 (by decide +kernel) rfl
theorem fd_X12_77 : FD RX12 77 13 37 true := ⟨_, _, _, cls_13, by decide, gwm 1209 (by decide +kernel) rfl, rfl, fun _ => by first | rfl | contradiction⟩
theorem fd_X12_80 : FD RX12 80 13 38 true := ⟨_, _, _, cls_13, by decide, gwm 1210 (by decide +kernel) rfl, rfl, fun _ => by first | rfl | contradiction⟩
theorem ml_X12_245 : Cond.methodLink RX12 245 yX12_off ∈ gw := gwm 1496 (by decide +kernel) rfl
theorem cal_X12_off : Cal yX12_off cX12_off 1 (some .int) 1 := ⟨gwm 1498 (by decide +kernel) rfl, gwm 76 (by decide +kernel) rfl, ⟨by decide, by decide, by decide +kernel⟩, by decide⟩
theorem sm_X12_off : Cond.static yX12_off ∈ gw := gwm 1497 (by decide +kernel) rfl
theorem ml_X12_248 : Cond.methodLink RX12 248 yX12_way ∈ gw := gwm 1493 (by decide +kernel) rfl
theorem cal_X12_way : Cal yX12_way cX12_way 5 (some .int) 4 := ⟨gwm 1495 (by decide +kernel) rfl, gwm 76 (by decide +kernel) rfl, ⟨by decide, by decide, by decide +kernel⟩, by decide⟩
theorem sm_X12_way : Cond.static yX12_way ∈ gw := gwm 1494 (by decide +kernel) rfl
theorem ct_X12_252 : Cond.constant RX12 252 (1000000000) ∈ gw := gwm 1488 (by decide +kernel) rfl
theorem fd_X12_99 : FD RX12 99 13 44 true := ⟨_, _, _, cls_13, by decide, gwm 1216 (by decide +kernel) rfl, rfl, fun _ => by first | rfl | contradiction⟩
theorem fd_X12_96 : FD RX12 96 13 43 true := ⟨_, _, _, cls_13, by decide, gwm 1215 (by decide +kernel) rfl, rfl, fun _ => by first | rfl | contradiction⟩
theorem ml_X12_253 : Cond.methodLink RX12 253 yX12_between ∈ gw := gwm 1489 (by decide +kernel) rfl
theorem cal_X12_between : Cal yX12_between cX12_between 4 (some .int) 3 := ⟨gwm 1492 (by decide +kernel) rfl, gwm 76 (by decide +kernel) rfl, ⟨by decide, by decide, by decide +kernel⟩, by decide⟩
theorem im_X12_between : Cond.instanceMethod yX12_between ∈ gw := gwm 1491 (by decide +kernel) rfl
theorem se_X12_between : Cond.selects RX12 yX12_between yX12_between ∈ gw := gwm 58 (by decide +kernel) rfl
theorem ml_X12_256 : Cond.methodLink RX12 256 yX12_first ∈ gw := gwm 1499 (by decide +kernel) rfl
theorem cal_X12_first : Cal yX12_first cX12_first 3 (some .int) 2 := ⟨gwm 1502 (by decide +kernel) rfl, gwm 76 (by decide +kernel) rfl, ⟨by decide, by decide, by decide +kernel⟩, by decide⟩
theorem im_X12_first : Cond.instanceMethod yX12_first ∈ gw := gwm 1501 (by decide +kernel) rfl
theorem se_X12_first : Cond.selects RX12 yX12_first yX12_first ∈ gw := gwm 59 (by decide +kernel) rfl
theorem ml_X12_259 : Cond.methodLink RX12 259 yX12_findPlan ∈ gw := gwm 1484 (by decide +kernel) rfl
theorem cal_X12_findPlan : Cal yX12_findPlan cX12_findPlan 12 (some .int) 1 := ⟨gwm 1487 (by decide +kernel) rfl, gwm 76 (by decide +kernel) rfl, ⟨by decide, by decide, by decide +kernel⟩, by decide⟩
theorem im_X12_findPlan : Cond.instanceMethod yX12_findPlan ∈ gw := gwm 1486 (by decide +kernel) rfl
theorem se_X12_findPlan : Cond.selects RX12 yX12_findPlan yX12_findPlan ∈ gw := gwm 57 (by decide +kernel) rfl
theorem fd_X12_105 : FD RX12 105 13 49 true := ⟨_, _, _, cls_13, by decide, gwm 1221 (by decide +kernel) rfl, rfl, fun _ => by first | rfl | contradiction⟩
theorem fd_X12_108 : FD RX12 108 13 50 true := ⟨_, _, _, cls_13, by decide, gwm 1222 (by decide +kernel) rfl, rfl, fun _ => by first | rfl | contradiction⟩
theorem fd_X12_262 : FD RX12 262 13 45 false := ⟨_, _, _, cls_13, by decide, gwm 1217 (by decide +kernel) rfl, rfl, fun _ => by first | rfl | contradiction⟩
theorem ct_X12_282 : Cond.constant RX12 282 (1048575) ∈ gw := gwm 1535 (by decide +kernel) rfl
theorem fd_X12_283 : FD RX12 283 13 51 false := ⟨_, _, _, cls_13, by decide, gwm 1223 (by decide +kernel) rfl, rfl, fun _ => by first | rfl | contradiction⟩
theorem fd_X12_111 : FD RX12 111 13 53 true := ⟨_, _, _, cls_13, by decide, gwm 1225 (by decide +kernel) rfl, rfl, fun _ => by first | rfl | contradiction⟩
theorem ct_X12_286 : Cond.constant RX12 286 (1000000) ∈ gw := gwm 1540 (by decide +kernel) rfl
theorem fd_X12_114 : FD RX12 114 13 54 true := ⟨_, _, _, cls_13, by decide, gwm 1226 (by decide +kernel) rfl, rfl, fun _ => by first | rfl | contradiction⟩
theorem fd_X12_287 : FD RX12 287 13 52 false := ⟨_, _, _, cls_13, by decide, gwm 1224 (by decide +kernel) rfl, rfl, fun _ => by first | rfl | contradiction⟩
theorem fd_X12_120 : FD RX12 120 13 56 true := ⟨_, _, _, cls_13, by decide, gwm 1228 (by decide +kernel) rfl, rfl, fun _ => by first | rfl | contradiction⟩
theorem fd_X12_117 : FD RX12 117 13 55 true := ⟨_, _, _, cls_13, by decide, gwm 1227 (by decide +kernel) rfl, rfl, fun _ => by first | rfl | contradiction⟩
theorem fd_X12_123 : FD RX12 123 13 57 true := ⟨_, _, _, cls_13, by decide, gwm 1229 (by decide +kernel) rfl, rfl, fun _ => by first | rfl | contradiction⟩
theorem dX12_isStone_0 : decode cX12_isStone 0 = .ok (.aload_n 0, 1) := by decide +kernel
theorem dX12_isStone_1 : decode cX12_isStone 1 = .ok (.iload_n 1, 1) := by decide +kernel
theorem dX12_isStone_2 : decode cX12_isStone 2 = .ok (.iconst 0, 1) := by decide +kernel
theorem dX12_isStone_3 : decode cX12_isStone 3 = .ok (.aload_n 0, 1) := by decide +kernel
theorem dX12_isStone_4 : decode cX12_isStone 4 = .ok (.getfield 239, 3) := by decide +kernel
theorem dX12_isStone_7 : decode cX12_isStone 7 = .ok (.iconst 1, 1) := by decide +kernel
theorem dX12_isStone_8 : decode cX12_isStone 8 = .ok (.isub, 1) := by decide +kernel
theorem dX12_isStone_9 : decode cX12_isStone 9 = .ok (.invokestatic 129, 3) := by decide +kernel
theorem dX12_isStone_12 : decode cX12_isStone 12 = .ok (.iconst 1, 1) := by decide +kernel
theorem dX12_isStone_13 : decode cX12_isStone 13 = .ok (.invokevirtual 133, 3) := by decide +kernel
theorem dX12_isStone_16 : decode cX12_isStone 16 = .ok (.ireturn, 1) := by decide +kernel
theorem dX12_facet_0 : decode cX12_facet 0 = .ok (.aload_n 0, 1) := by decide +kernel
theorem dX12_facet_1 : decode cX12_facet 1 = .ok (.iconst 0, 1) := by decide +kernel
theorem dX12_facet_2 : decode cX12_facet 2 = .ok (.putfield 1, 3) := by decide +kernel
theorem dX12_facet_5 : decode cX12_facet 5 = .ok (.aload_n 0, 1) := by decide +kernel
theorem dX12_facet_6 : decode cX12_facet 6 = .ok (.iload_n 1, 1) := by decide +kernel
theorem dX12_facet_7 : decode cX12_facet 7 = .ok (.invokevirtual 242, 3) := by decide +kernel
theorem dX12_facet_10 : decode cX12_facet 10 = .ok (.ifCond .eq 36, 3) := by decide +kernel
theorem dX12_facet_13 : decode cX12_facet 13 = .ok (.aload_n 0, 1) := by decide +kernel
theorem dX12_facet_14 : decode cX12_facet 14 = .ok (.iload_n 2, 1) := by decide +kernel
theorem dX12_facet_15 : decode cX12_facet 15 = .ok (.iconst 0, 1) := by decide +kernel
theorem dX12_facet_16 : decode cX12_facet 16 = .ok (.bipush 95, 2) := by decide +kernel
theorem dX12_facet_18 : decode cX12_facet 18 = .ok (.invokestatic 129, 3) := by decide +kernel
theorem dX12_facet_21 : decode cX12_facet 21 = .ok (.ifCond .eq 17, 3) := by decide +kernel
theorem dX12_facet_24 : decode cX12_facet 24 = .ok (.iload_n 3, 1) := by decide +kernel
theorem dX12_facet_25 : decode cX12_facet 25 = .ok (.iconst 0, 1) := by decide +kernel
theorem dX12_facet_26 : decode cX12_facet 26 = .ok (.bipush 90, 2) := by decide +kernel
theorem dX12_facet_28 : decode cX12_facet 28 = .ok (.invokestatic 129, 3) := by decide +kernel
theorem dX12_facet_31 : decode cX12_facet 31 = .ok (.ifCond .eq 7, 3) := by decide +kernel
theorem dX12_facet_34 : decode cX12_facet 34 = .ok (.iconst 1, 1) := by decide +kernel
theorem dX12_facet_35 : decode cX12_facet 35 = .ok (.goto 4, 3) := by decide +kernel
theorem dX12_facet_38 : decode cX12_facet 38 = .ok (.iconst 0, 1) := by decide +kernel
theorem dX12_facet_39 : decode cX12_facet 39 = .ok (.iconst 2, 1) := by decide +kernel
theorem dX12_facet_40 : decode cX12_facet 40 = .ok (.invokevirtual 133, 3) := by decide +kernel
theorem dX12_facet_43 : decode cX12_facet 43 = .ok (.ifCond .ne 5, 3) := by decide +kernel
theorem dX12_facet_46 : decode cX12_facet 46 = .ok (.iconst 0, 1) := by decide +kernel
theorem dX12_facet_47 : decode cX12_facet 47 = .ok (.ireturn, 1) := by decide +kernel
theorem dX12_facet_48 : decode cX12_facet 48 = .ok (.aload_n 0, 1) := by decide +kernel
theorem dX12_facet_49 : decode cX12_facet 49 = .ok (.getfield 92, 3) := by decide +kernel
theorem dX12_facet_52 : decode cX12_facet 52 = .ok (.iload_n 1, 1) := by decide +kernel
theorem dX12_facet_53 : decode cX12_facet 53 = .ok (.baload, 1) := by decide +kernel
theorem dX12_facet_54 : decode cX12_facet 54 = .ok (.ifCond .eq 5, 3) := by decide +kernel
theorem dX12_facet_57 : decode cX12_facet 57 = .ok (.iconst (-1), 1) := by decide +kernel
theorem dX12_facet_58 : decode cX12_facet 58 = .ok (.ireturn, 1) := by decide +kernel
theorem dX12_facet_59 : decode cX12_facet 59 = .ok (.aload_n 0, 1) := by decide +kernel
theorem dX12_facet_60 : decode cX12_facet 60 = .ok (.getfield 74, 3) := by decide +kernel
theorem dX12_facet_63 : decode cX12_facet 63 = .ok (.iload_n 1, 1) := by decide +kernel
theorem dX12_facet_64 : decode cX12_facet 64 = .ok (.iaload, 1) := by decide +kernel
theorem dX12_facet_65 : decode cX12_facet 65 = .ok (.bipush 8, 2) := by decide +kernel
theorem dX12_facet_67 : decode cX12_facet 67 = .ok (.if_icmp .ne 6, 3) := by decide +kernel
theorem dX12_facet_70 : decode cX12_facet 70 = .ok (.bipush (-2), 2) := by decide +kernel
theorem dX12_facet_72 : decode cX12_facet 72 = .ok (.ireturn, 1) := by decide +kernel
theorem dX12_facet_73 : decode cX12_facet 73 = .ok (.aload_n 0, 1) := by decide +kernel
theorem dX12_facet_74 : decode cX12_facet 74 = .ok (.getfield 77, 3) := by decide +kernel
theorem dX12_facet_77 : decode cX12_facet 77 = .ok (.bipush 8, 2) := by decide +kernel
theorem dX12_facet_79 : decode cX12_facet 79 = .ok (.iload_n 1, 1) := by decide +kernel
theorem dX12_facet_80 : decode cX12_facet 80 = .ok (.imul, 1) := by decide +kernel
theorem dX12_facet_81 : decode cX12_facet 81 = .ok (.aload_n 0, 1) := by decide +kernel
theorem dX12_facet_82 : decode cX12_facet 82 = .ok (.getfield 74, 3) := by decide +kernel
theorem dX12_facet_85 : decode cX12_facet 85 = .ok (.iload_n 1, 1) := by decide +kernel
theorem dX12_facet_86 : decode cX12_facet 86 = .ok (.iaload, 1) := by decide +kernel
theorem dX12_facet_87 : decode cX12_facet 87 = .ok (.iadd, 1) := by decide +kernel
theorem dX12_facet_88 : decode cX12_facet 88 = .ok (.iload_n 2, 1) := by decide +kernel
theorem dX12_facet_89 : decode cX12_facet 89 = .ok (.iastore, 1) := by decide +kernel
theorem dX12_facet_90 : decode cX12_facet 90 = .ok (.aload_n 0, 1) := by decide +kernel
theorem dX12_facet_91 : decode cX12_facet 91 = .ok (.getfield 80, 3) := by decide +kernel
theorem dX12_facet_94 : decode cX12_facet 94 = .ok (.bipush 8, 2) := by decide +kernel
theorem dX12_facet_96 : decode cX12_facet 96 = .ok (.iload_n 1, 1) := by decide +kernel
theorem dX12_facet_97 : decode cX12_facet 97 = .ok (.imul, 1) := by decide +kernel
theorem dX12_facet_98 : decode cX12_facet 98 = .ok (.aload_n 0, 1) := by decide +kernel
theorem dX12_facet_99 : decode cX12_facet 99 = .ok (.getfield 74, 3) := by decide +kernel
theorem dX12_facet_102 : decode cX12_facet 102 = .ok (.iload_n 1, 1) := by decide +kernel
theorem dX12_facet_103 : decode cX12_facet 103 = .ok (.iaload, 1) := by decide +kernel
theorem dX12_facet_104 : decode cX12_facet 104 = .ok (.iadd, 1) := by decide +kernel
theorem dX12_facet_105 : decode cX12_facet 105 = .ok (.iload_n 3, 1) := by decide +kernel
theorem dX12_facet_106 : decode cX12_facet 106 = .ok (.iastore, 1) := by decide +kernel
theorem dX12_facet_107 : decode cX12_facet 107 = .ok (.aload_n 0, 1) := by decide +kernel
theorem dX12_facet_108 : decode cX12_facet 108 = .ok (.getfield 74, 3) := by decide +kernel
theorem dX12_facet_111 : decode cX12_facet 111 = .ok (.iload_n 1, 1) := by decide +kernel
theorem dX12_facet_112 : decode cX12_facet 112 = .ok (.dup2, 1) := by decide +kernel
theorem dX12_facet_113 : decode cX12_facet 113 = .ok (.iaload, 1) := by decide +kernel
theorem dX12_facet_114 : decode cX12_facet 114 = .ok (.iconst 1, 1) := by decide +kernel
theorem dX12_facet_115 : decode cX12_facet 115 = .ok (.iadd, 1) := by decide +kernel
theorem dX12_facet_116 : decode cX12_facet 116 = .ok (.iastore, 1) := by decide +kernel
theorem dX12_facet_117 : decode cX12_facet 117 = .ok (.aload_n 0, 1) := by decide +kernel
theorem dX12_facet_118 : decode cX12_facet 118 = .ok (.getfield 74, 3) := by decide +kernel
theorem dX12_facet_121 : decode cX12_facet 121 = .ok (.iload_n 1, 1) := by decide +kernel
theorem dX12_facet_122 : decode cX12_facet 122 = .ok (.iaload, 1) := by decide +kernel
theorem dX12_facet_123 : decode cX12_facet 123 = .ok (.ireturn, 1) := by decide +kernel
theorem dX12_off_0 : decode cX12_off 0 = .ok (.iload_n 0, 1) := by decide +kernel
theorem dX12_off_1 : decode cX12_off 1 = .ok (.ifCond .ge 8, 3) := by decide +kernel
theorem dX12_off_4 : decode cX12_off 4 = .ok (.iload_n 0, 1) := by decide +kernel
theorem dX12_off_5 : decode cX12_off 5 = .ok (.ineg, 1) := by decide +kernel
theorem dX12_off_6 : decode cX12_off 6 = .ok (.goto 4, 3) := by decide +kernel
theorem dX12_off_9 : decode cX12_off 9 = .ok (.iload_n 0, 1) := by decide +kernel
theorem dX12_off_10 : decode cX12_off 10 = .ok (.ireturn, 1) := by decide +kernel
theorem dX12_way_0 : decode cX12_way 0 = .ok (.iload_n 0, 1) := by decide +kernel
theorem dX12_way_1 : decode cX12_way 1 = .ok (.iload_n 2, 1) := by decide +kernel
theorem dX12_way_2 : decode cX12_way 2 = .ok (.isub, 1) := by decide +kernel
theorem dX12_way_3 : decode cX12_way 3 = .ok (.invokestatic 245, 3) := by decide +kernel
theorem dX12_way_6 : decode cX12_way 6 = .ok (.istore 4, 2) := by decide +kernel
theorem dX12_way_8 : decode cX12_way 8 = .ok (.iload 4, 2) := by decide +kernel
theorem dX12_way_10 : decode cX12_way 10 = .ok (.bipush 96, 2) := by decide +kernel
theorem dX12_way_12 : decode cX12_way 12 = .ok (.iload 4, 2) := by decide +kernel
theorem dX12_way_14 : decode cX12_way 14 = .ok (.isub, 1) := by decide +kernel
theorem dX12_way_15 : decode cX12_way 15 = .ok (.if_icmp .ge 8, 3) := by decide +kernel
theorem dX12_way_18 : decode cX12_way 18 = .ok (.iload 4, 2) := by decide +kernel
theorem dX12_way_20 : decode cX12_way 20 = .ok (.goto 8, 3) := by decide +kernel
theorem dX12_way_23 : decode cX12_way 23 = .ok (.bipush 96, 2) := by decide +kernel
theorem dX12_way_25 : decode cX12_way 25 = .ok (.iload 4, 2) := by decide +kernel
theorem dX12_way_27 : decode cX12_way 27 = .ok (.isub, 1) := by decide +kernel
theorem dX12_way_28 : decode cX12_way 28 = .ok (.iconst 2, 1) := by decide +kernel
theorem dX12_way_29 : decode cX12_way 29 = .ok (.iload_n 1, 1) := by decide +kernel
theorem dX12_way_30 : decode cX12_way 30 = .ok (.iload_n 3, 1) := by decide +kernel
theorem dX12_way_31 : decode cX12_way 31 = .ok (.isub, 1) := by decide +kernel
theorem dX12_way_32 : decode cX12_way 32 = .ok (.invokestatic 245, 3) := by decide +kernel
theorem dX12_way_35 : decode cX12_way 35 = .ok (.imul, 1) := by decide +kernel
theorem dX12_way_36 : decode cX12_way 36 = .ok (.iadd, 1) := by decide +kernel
theorem dX12_way_37 : decode cX12_way 37 = .ok (.ireturn, 1) := by decide +kernel
theorem dX12_between_0 : decode cX12_between 0 = .ok (.aload_n 0, 1) := by decide +kernel
theorem dX12_between_1 : decode cX12_between 1 = .ok (.getfield 77, 3) := by decide +kernel
theorem dX12_between_4 : decode cX12_between 4 = .ok (.bipush 8, 2) := by decide +kernel
theorem dX12_between_6 : decode cX12_between 6 = .ok (.iload_n 1, 1) := by decide +kernel
theorem dX12_between_7 : decode cX12_between 7 = .ok (.imul, 1) := by decide +kernel
theorem dX12_between_8 : decode cX12_between 8 = .ok (.iload_n 2, 1) := by decide +kernel
theorem dX12_between_9 : decode cX12_between 9 = .ok (.iadd, 1) := by decide +kernel
theorem dX12_between_10 : decode cX12_between 10 = .ok (.iaload, 1) := by decide +kernel
theorem dX12_between_11 : decode cX12_between 11 = .ok (.aload_n 0, 1) := by decide +kernel
theorem dX12_between_12 : decode cX12_between 12 = .ok (.getfield 80, 3) := by decide +kernel
theorem dX12_between_15 : decode cX12_between 15 = .ok (.bipush 8, 2) := by decide +kernel
theorem dX12_between_17 : decode cX12_between 17 = .ok (.iload_n 1, 1) := by decide +kernel
theorem dX12_between_18 : decode cX12_between 18 = .ok (.imul, 1) := by decide +kernel
theorem dX12_between_19 : decode cX12_between 19 = .ok (.iload_n 2, 1) := by decide +kernel
theorem dX12_between_20 : decode cX12_between 20 = .ok (.iadd, 1) := by decide +kernel
theorem dX12_between_21 : decode cX12_between 21 = .ok (.iaload, 1) := by decide +kernel
theorem dX12_between_22 : decode cX12_between 22 = .ok (.aload_n 0, 1) := by decide +kernel
theorem dX12_between_23 : decode cX12_between 23 = .ok (.getfield 77, 3) := by decide +kernel
theorem dX12_between_26 : decode cX12_between 26 = .ok (.bipush 8, 2) := by decide +kernel
theorem dX12_between_28 : decode cX12_between 28 = .ok (.iload_n 1, 1) := by decide +kernel
theorem dX12_between_29 : decode cX12_between 29 = .ok (.imul, 1) := by decide +kernel
theorem dX12_between_30 : decode cX12_between 30 = .ok (.iload_n 3, 1) := by decide +kernel
theorem dX12_between_31 : decode cX12_between 31 = .ok (.iadd, 1) := by decide +kernel
theorem dX12_between_32 : decode cX12_between 32 = .ok (.iaload, 1) := by decide +kernel
theorem dX12_between_33 : decode cX12_between 33 = .ok (.aload_n 0, 1) := by decide +kernel
theorem dX12_between_34 : decode cX12_between 34 = .ok (.getfield 80, 3) := by decide +kernel
theorem dX12_between_37 : decode cX12_between 37 = .ok (.bipush 8, 2) := by decide +kernel
theorem dX12_between_39 : decode cX12_between 39 = .ok (.iload_n 1, 1) := by decide +kernel
theorem dX12_between_40 : decode cX12_between 40 = .ok (.imul, 1) := by decide +kernel
theorem dX12_between_41 : decode cX12_between 41 = .ok (.iload_n 3, 1) := by decide +kernel
theorem dX12_between_42 : decode cX12_between 42 = .ok (.iadd, 1) := by decide +kernel
theorem dX12_between_43 : decode cX12_between 43 = .ok (.iaload, 1) := by decide +kernel
theorem dX12_between_44 : decode cX12_between 44 = .ok (.invokestatic 248, 3) := by decide +kernel
theorem dX12_between_47 : decode cX12_between 47 = .ok (.ireturn, 1) := by decide +kernel
theorem dX12_first_0 : decode cX12_first 0 = .ok (.iconst 0, 1) := by decide +kernel
theorem dX12_first_1 : decode cX12_first 1 = .ok (.iconst 0, 1) := by decide +kernel
theorem dX12_first_2 : decode cX12_first 2 = .ok (.aload_n 0, 1) := by decide +kernel
theorem dX12_first_3 : decode cX12_first 3 = .ok (.getfield 77, 3) := by decide +kernel
theorem dX12_first_6 : decode cX12_first 6 = .ok (.bipush 8, 2) := by decide +kernel
theorem dX12_first_8 : decode cX12_first 8 = .ok (.iload_n 1, 1) := by decide +kernel
theorem dX12_first_9 : decode cX12_first 9 = .ok (.imul, 1) := by decide +kernel
theorem dX12_first_10 : decode cX12_first 10 = .ok (.iload_n 2, 1) := by decide +kernel
theorem dX12_first_11 : decode cX12_first 11 = .ok (.iadd, 1) := by decide +kernel
theorem dX12_first_12 : decode cX12_first 12 = .ok (.iaload, 1) := by decide +kernel
theorem dX12_first_13 : decode cX12_first 13 = .ok (.aload_n 0, 1) := by decide +kernel
theorem dX12_first_14 : decode cX12_first 14 = .ok (.getfield 80, 3) := by decide +kernel
theorem dX12_first_17 : decode cX12_first 17 = .ok (.bipush 8, 2) := by decide +kernel
theorem dX12_first_19 : decode cX12_first 19 = .ok (.iload_n 1, 1) := by decide +kernel
theorem dX12_first_20 : decode cX12_first 20 = .ok (.imul, 1) := by decide +kernel
theorem dX12_first_21 : decode cX12_first 21 = .ok (.iload_n 2, 1) := by decide +kernel
theorem dX12_first_22 : decode cX12_first 22 = .ok (.iadd, 1) := by decide +kernel
theorem dX12_first_23 : decode cX12_first 23 = .ok (.iaload, 1) := by decide +kernel
theorem dX12_first_24 : decode cX12_first 24 = .ok (.invokestatic 248, 3) := by decide +kernel
theorem dX12_first_27 : decode cX12_first 27 = .ok (.ireturn, 1) := by decide +kernel
theorem dX12_findPlan_0 : decode cX12_findPlan 0 = .ok (.aload_n 0, 1) := by decide +kernel
theorem dX12_findPlan_1 : decode cX12_findPlan 1 = .ok (.getfield 74, 3) := by decide +kernel
theorem dX12_findPlan_4 : decode cX12_findPlan 4 = .ok (.iload_n 1, 1) := by decide +kernel
theorem dX12_findPlan_5 : decode cX12_findPlan 5 = .ok (.iaload, 1) := by decide +kernel
theorem dX12_findPlan_6 : decode cX12_findPlan 6 = .ok (.istore_n 2, 1) := by decide +kernel
theorem dX12_findPlan_7 : decode cX12_findPlan 7 = .ok (.iconst 1, 1) := by decide +kernel
theorem dX12_findPlan_8 : decode cX12_findPlan 8 = .ok (.iload_n 2, 1) := by decide +kernel
theorem dX12_findPlan_9 : decode cX12_findPlan 9 = .ok (.ishl, 1) := by decide +kernel
theorem dX12_findPlan_10 : decode cX12_findPlan 10 = .ok (.iconst 1, 1) := by decide +kernel
theorem dX12_findPlan_11 : decode cX12_findPlan 11 = .ok (.isub, 1) := by decide +kernel
theorem dX12_findPlan_12 : decode cX12_findPlan 12 = .ok (.istore_n 3, 1) := by decide +kernel
theorem dX12_findPlan_13 : decode cX12_findPlan 13 = .ok (.iload_n 3, 1) := by decide +kernel
theorem dX12_findPlan_14 : decode cX12_findPlan 14 = .ok (.istore 4, 2) := by decide +kernel
theorem dX12_findPlan_16 : decode cX12_findPlan 16 = .ok (.iload 4, 2) := by decide +kernel
theorem dX12_findPlan_18 : decode cX12_findPlan 18 = .ok (.ifCond .le 141, 3) := by decide +kernel
theorem dX12_findPlan_21 : decode cX12_findPlan 21 = .ok (.iconst 0, 1) := by decide +kernel
theorem dX12_findPlan_22 : decode cX12_findPlan 22 = .ok (.istore 5, 2) := by decide +kernel
theorem dX12_findPlan_24 : decode cX12_findPlan 24 = .ok (.iload 5, 2) := by decide +kernel
theorem dX12_findPlan_26 : decode cX12_findPlan 26 = .ok (.iload_n 2, 1) := by decide +kernel
theorem dX12_findPlan_27 : decode cX12_findPlan 27 = .ok (.if_icmp .ge 126, 3) := by decide +kernel
theorem dX12_findPlan_30 : decode cX12_findPlan 30 = .ok (.iload 4, 2) := by decide +kernel
theorem dX12_findPlan_32 : decode cX12_findPlan 32 = .ok (.iload_n 3, 1) := by decide +kernel
theorem dX12_findPlan_33 : decode cX12_findPlan 33 = .ok (.if_icmp .ne 7, 3) := by decide +kernel
theorem dX12_findPlan_36 : decode cX12_findPlan 36 = .ok (.iconst 0, 1) := by decide +kernel
theorem dX12_findPlan_37 : decode cX12_findPlan 37 = .ok (.goto 5, 3) := by decide +kernel
theorem dX12_findPlan_40 : decode cX12_findPlan 40 = .ok (.ldc 252, 2) := by decide +kernel
theorem dX12_findPlan_42 : decode cX12_findPlan 42 = .ok (.istore 6, 2) := by decide +kernel
theorem dX12_findPlan_44 : decode cX12_findPlan 44 = .ok (.iconst 0, 1) := by decide +kernel
theorem dX12_findPlan_45 : decode cX12_findPlan 45 = .ok (.istore 7, 2) := by decide +kernel
theorem dX12_findPlan_47 : decode cX12_findPlan 47 = .ok (.iload 7, 2) := by decide +kernel
theorem dX12_findPlan_49 : decode cX12_findPlan 49 = .ok (.iload_n 2, 1) := by decide +kernel
theorem dX12_findPlan_50 : decode cX12_findPlan 50 = .ok (.if_icmp .ge 82, 3) := by decide +kernel
theorem dX12_findPlan_53 : decode cX12_findPlan 53 = .ok (.iload 4, 2) := by decide +kernel
theorem dX12_findPlan_55 : decode cX12_findPlan 55 = .ok (.iload 7, 2) := by decide +kernel
theorem dX12_findPlan_57 : decode cX12_findPlan 57 = .ok (.ishr, 1) := by decide +kernel
theorem dX12_findPlan_58 : decode cX12_findPlan 58 = .ok (.iconst 1, 1) := by decide +kernel
theorem dX12_findPlan_59 : decode cX12_findPlan 59 = .ok (.iand, 1) := by decide +kernel
theorem dX12_findPlan_60 : decode cX12_findPlan 60 = .ok (.ifCond .ne 66, 3) := by decide +kernel
theorem dX12_findPlan_63 : decode cX12_findPlan 63 = .ok (.aload_n 0, 1) := by decide +kernel
theorem dX12_findPlan_64 : decode cX12_findPlan 64 = .ok (.iload_n 1, 1) := by decide +kernel
theorem dX12_findPlan_65 : decode cX12_findPlan 65 = .ok (.iload 5, 2) := by decide +kernel
theorem dX12_findPlan_67 : decode cX12_findPlan 67 = .ok (.iload 7, 2) := by decide +kernel
theorem dX12_findPlan_69 : decode cX12_findPlan 69 = .ok (.invokevirtual 253, 3) := by decide +kernel
theorem dX12_findPlan_72 : decode cX12_findPlan 72 = .ok (.aload_n 0, 1) := by decide +kernel
theorem dX12_findPlan_73 : decode cX12_findPlan 73 = .ok (.getfield 96, 3) := by decide +kernel
theorem dX12_findPlan_76 : decode cX12_findPlan 76 = .ok (.bipush 8, 2) := by decide +kernel
theorem dX12_findPlan_78 : decode cX12_findPlan 78 = .ok (.iload 4, 2) := by decide +kernel
theorem dX12_findPlan_80 : decode cX12_findPlan 80 = .ok (.iconst 1, 1) := by decide +kernel
theorem dX12_findPlan_81 : decode cX12_findPlan 81 = .ok (.iload 7, 2) := by decide +kernel
theorem dX12_findPlan_83 : decode cX12_findPlan 83 = .ok (.ishl, 1) := by decide +kernel
theorem dX12_findPlan_84 : decode cX12_findPlan 84 = .ok (.ior, 1) := by decide +kernel
theorem dX12_findPlan_85 : decode cX12_findPlan 85 = .ok (.imul, 1) := by decide +kernel
theorem dX12_findPlan_86 : decode cX12_findPlan 86 = .ok (.iload 7, 2) := by decide +kernel
theorem dX12_findPlan_88 : decode cX12_findPlan 88 = .ok (.iadd, 1) := by decide +kernel
theorem dX12_findPlan_89 : decode cX12_findPlan 89 = .ok (.iaload, 1) := by decide +kernel
theorem dX12_findPlan_90 : decode cX12_findPlan 90 = .ok (.iadd, 1) := by decide +kernel
theorem dX12_findPlan_91 : decode cX12_findPlan 91 = .ok (.iload 6, 2) := by decide +kernel
theorem dX12_findPlan_93 : decode cX12_findPlan 93 = .ok (.if_icmp .ge 33, 3) := by decide +kernel
theorem dX12_findPlan_96 : decode cX12_findPlan 96 = .ok (.aload_n 0, 1) := by decide +kernel
theorem dX12_findPlan_97 : decode cX12_findPlan 97 = .ok (.iload_n 1, 1) := by decide +kernel
theorem dX12_findPlan_98 : decode cX12_findPlan 98 = .ok (.iload 5, 2) := by decide +kernel
theorem dX12_findPlan_100 : decode cX12_findPlan 100 = .ok (.iload 7, 2) := by decide +kernel
theorem dX12_findPlan_102 : decode cX12_findPlan 102 = .ok (.invokevirtual 253, 3) := by decide +kernel
theorem dX12_findPlan_105 : decode cX12_findPlan 105 = .ok (.aload_n 0, 1) := by decide +kernel
theorem dX12_findPlan_106 : decode cX12_findPlan 106 = .ok (.getfield 96, 3) := by decide +kernel
theorem dX12_findPlan_109 : decode cX12_findPlan 109 = .ok (.bipush 8, 2) := by decide +kernel
theorem dX12_findPlan_111 : decode cX12_findPlan 111 = .ok (.iload 4, 2) := by decide +kernel
theorem dX12_findPlan_113 : decode cX12_findPlan 113 = .ok (.iconst 1, 1) := by decide +kernel
theorem dX12_findPlan_114 : decode cX12_findPlan 114 = .ok (.iload 7, 2) := by decide +kernel
theorem dX12_findPlan_116 : decode cX12_findPlan 116 = .ok (.ishl, 1) := by decide +kernel
theorem dX12_findPlan_117 : decode cX12_findPlan 117 = .ok (.ior, 1) := by decide +kernel
theorem dX12_findPlan_118 : decode cX12_findPlan 118 = .ok (.imul, 1) := by decide +kernel
theorem dX12_findPlan_119 : decode cX12_findPlan 119 = .ok (.iload 7, 2) := by decide +kernel
theorem dX12_findPlan_121 : decode cX12_findPlan 121 = .ok (.iadd, 1) := by decide +kernel
theorem dX12_findPlan_122 : decode cX12_findPlan 122 = .ok (.iaload, 1) := by decide +kernel
theorem dX12_findPlan_123 : decode cX12_findPlan 123 = .ok (.iadd, 1) := by decide +kernel
theorem dX12_findPlan_124 : decode cX12_findPlan 124 = .ok (.istore 6, 2) := by decide +kernel
theorem dX12_findPlan_126 : decode cX12_findPlan 126 = .ok (.iinc 7 1, 3) := by decide +kernel
theorem dX12_findPlan_129 : decode cX12_findPlan 129 = .ok (.goto (-82), 3) := by decide +kernel
theorem dX12_findPlan_132 : decode cX12_findPlan 132 = .ok (.aload_n 0, 1) := by decide +kernel
theorem dX12_findPlan_133 : decode cX12_findPlan 133 = .ok (.getfield 96, 3) := by decide +kernel
theorem dX12_findPlan_136 : decode cX12_findPlan 136 = .ok (.bipush 8, 2) := by decide +kernel
theorem dX12_findPlan_138 : decode cX12_findPlan 138 = .ok (.iload 4, 2) := by decide +kernel
theorem dX12_findPlan_140 : decode cX12_findPlan 140 = .ok (.imul, 1) := by decide +kernel
theorem dX12_findPlan_141 : decode cX12_findPlan 141 = .ok (.iload 5, 2) := by decide +kernel
theorem dX12_findPlan_143 : decode cX12_findPlan 143 = .ok (.iadd, 1) := by decide +kernel
theorem dX12_findPlan_144 : decode cX12_findPlan 144 = .ok (.iload 6, 2) := by decide +kernel
theorem dX12_findPlan_146 : decode cX12_findPlan 146 = .ok (.iastore, 1) := by decide +kernel
theorem dX12_findPlan_147 : decode cX12_findPlan 147 = .ok (.iinc 5 1, 3) := by decide +kernel
theorem dX12_findPlan_150 : decode cX12_findPlan 150 = .ok (.goto (-126), 3) := by decide +kernel
theorem dX12_findPlan_153 : decode cX12_findPlan 153 = .ok (.iinc 4 (-1), 3) := by decide +kernel
theorem dX12_findPlan_156 : decode cX12_findPlan 156 = .ok (.goto (-140), 3) := by decide +kernel
theorem dX12_findPlan_159 : decode cX12_findPlan 159 = .ok (.iconst 0, 1) := by decide +kernel
theorem dX12_findPlan_160 : decode cX12_findPlan 160 = .ok (.istore 4, 2) := by decide +kernel
theorem dX12_findPlan_162 : decode cX12_findPlan 162 = .ok (.iconst (-1), 1) := by decide +kernel
theorem dX12_findPlan_163 : decode cX12_findPlan 163 = .ok (.istore 5, 2) := by decide +kernel
theorem dX12_findPlan_165 : decode cX12_findPlan 165 = .ok (.iconst 0, 1) := by decide +kernel
theorem dX12_findPlan_166 : decode cX12_findPlan 166 = .ok (.istore 6, 2) := by decide +kernel
theorem dX12_findPlan_168 : decode cX12_findPlan 168 = .ok (.iconst 0, 1) := by decide +kernel
theorem dX12_findPlan_169 : decode cX12_findPlan 169 = .ok (.istore 7, 2) := by decide +kernel
theorem dX12_findPlan_171 : decode cX12_findPlan 171 = .ok (.iload 7, 2) := by decide +kernel
theorem dX12_findPlan_173 : decode cX12_findPlan 173 = .ok (.iload_n 2, 1) := by decide +kernel
theorem dX12_findPlan_174 : decode cX12_findPlan 174 = .ok (.if_icmp .ge 140, 3) := by decide +kernel
theorem dX12_findPlan_177 : decode cX12_findPlan 177 = .ok (.iconst (-1), 1) := by decide +kernel
theorem dX12_findPlan_178 : decode cX12_findPlan 178 = .ok (.istore 8, 2) := by decide +kernel
theorem dX12_findPlan_180 : decode cX12_findPlan 180 = .ok (.ldc 252, 2) := by decide +kernel
theorem dX12_findPlan_182 : decode cX12_findPlan 182 = .ok (.istore 9, 2) := by decide +kernel
theorem dX12_findPlan_184 : decode cX12_findPlan 184 = .ok (.iconst 0, 1) := by decide +kernel
theorem dX12_findPlan_185 : decode cX12_findPlan 185 = .ok (.istore 10, 2) := by decide +kernel
theorem dX12_findPlan_187 : decode cX12_findPlan 187 = .ok (.iload 10, 2) := by decide +kernel
theorem dX12_findPlan_189 : decode cX12_findPlan 189 = .ok (.iload_n 2, 1) := by decide +kernel
theorem dX12_findPlan_190 : decode cX12_findPlan 190 = .ok (.if_icmp .ge 87, 3) := by decide +kernel
theorem dX12_findPlan_193 : decode cX12_findPlan 193 = .ok (.iload 4, 2) := by decide +kernel
theorem dX12_findPlan_195 : decode cX12_findPlan 195 = .ok (.iload 10, 2) := by decide +kernel
theorem dX12_findPlan_197 : decode cX12_findPlan 197 = .ok (.ishr, 1) := by decide +kernel
theorem dX12_findPlan_198 : decode cX12_findPlan 198 = .ok (.iconst 1, 1) := by decide +kernel
theorem dX12_findPlan_199 : decode cX12_findPlan 199 = .ok (.iand, 1) := by decide +kernel
theorem dX12_findPlan_200 : decode cX12_findPlan 200 = .ok (.iconst 1, 1) := by decide +kernel
theorem dX12_findPlan_201 : decode cX12_findPlan 201 = .ok (.if_icmp .ne 6, 3) := by decide +kernel
theorem dX12_findPlan_204 : decode cX12_findPlan 204 = .ok (.goto 67, 3) := by decide +kernel
theorem dX12_findPlan_207 : decode cX12_findPlan 207 = .ok (.iload 5, 2) := by decide +kernel
theorem dX12_findPlan_209 : decode cX12_findPlan 209 = .ok (.iconst (-1), 1) := by decide +kernel
theorem dX12_findPlan_210 : decode cX12_findPlan 210 = .ok (.if_icmp .ne 13, 3) := by decide +kernel
theorem dX12_findPlan_213 : decode cX12_findPlan 213 = .ok (.aload_n 0, 1) := by decide +kernel
theorem dX12_findPlan_214 : decode cX12_findPlan 214 = .ok (.iload_n 1, 1) := by decide +kernel
theorem dX12_findPlan_215 : decode cX12_findPlan 215 = .ok (.iload 10, 2) := by decide +kernel
theorem dX12_findPlan_217 : decode cX12_findPlan 217 = .ok (.invokevirtual 256, 3) := by decide +kernel
theorem dX12_findPlan_220 : decode cX12_findPlan 220 = .ok (.goto 12, 3) := by decide +kernel
theorem dX12_findPlan_223 : decode cX12_findPlan 223 = .ok (.aload_n 0, 1) := by decide +kernel
theorem dX12_findPlan_224 : decode cX12_findPlan 224 = .ok (.iload_n 1, 1) := by decide +kernel
theorem dX12_findPlan_225 : decode cX12_findPlan 225 = .ok (.iload 5, 2) := by decide +kernel
theorem dX12_findPlan_227 : decode cX12_findPlan 227 = .ok (.iload 10, 2) := by decide +kernel
theorem dX12_findPlan_229 : decode cX12_findPlan 229 = .ok (.invokevirtual 253, 3) := by decide +kernel
theorem dX12_findPlan_232 : decode cX12_findPlan 232 = .ok (.aload_n 0, 1) := by decide +kernel
theorem dX12_findPlan_233 : decode cX12_findPlan 233 = .ok (.getfield 96, 3) := by decide +kernel
theorem dX12_findPlan_236 : decode cX12_findPlan 236 = .ok (.bipush 8, 2) := by decide +kernel
theorem dX12_findPlan_238 : decode cX12_findPlan 238 = .ok (.iload 4, 2) := by decide +kernel
theorem dX12_findPlan_240 : decode cX12_findPlan 240 = .ok (.iconst 1, 1) := by decide +kernel
theorem dX12_findPlan_241 : decode cX12_findPlan 241 = .ok (.iload 10, 2) := by decide +kernel
theorem dX12_findPlan_243 : decode cX12_findPlan 243 = .ok (.ishl, 1) := by decide +kernel
theorem dX12_findPlan_244 : decode cX12_findPlan 244 = .ok (.ior, 1) := by decide +kernel
theorem dX12_findPlan_245 : decode cX12_findPlan 245 = .ok (.imul, 1) := by decide +kernel
theorem dX12_findPlan_246 : decode cX12_findPlan 246 = .ok (.iload 10, 2) := by decide +kernel
theorem dX12_findPlan_248 : decode cX12_findPlan 248 = .ok (.iadd, 1) := by decide +kernel
theorem dX12_findPlan_249 : decode cX12_findPlan 249 = .ok (.iaload, 1) := by decide +kernel
theorem dX12_findPlan_250 : decode cX12_findPlan 250 = .ok (.iadd, 1) := by decide +kernel
theorem dX12_findPlan_251 : decode cX12_findPlan 251 = .ok (.istore 11, 2) := by decide +kernel
theorem dX12_findPlan_253 : decode cX12_findPlan 253 = .ok (.iload 11, 2) := by decide +kernel
theorem dX12_findPlan_255 : decode cX12_findPlan 255 = .ok (.iload 9, 2) := by decide +kernel
theorem dX12_findPlan_257 : decode cX12_findPlan 257 = .ok (.if_icmp .lt 6, 3) := by decide +kernel
theorem dX12_findPlan_260 : decode cX12_findPlan 260 = .ok (.goto 11, 3) := by decide +kernel
theorem dX12_findPlan_263 : decode cX12_findPlan 263 = .ok (.iload 10, 2) := by decide +kernel
theorem dX12_findPlan_265 : decode cX12_findPlan 265 = .ok (.istore 8, 2) := by decide +kernel
theorem dX12_findPlan_267 : decode cX12_findPlan 267 = .ok (.iload 11, 2) := by decide +kernel
theorem dX12_findPlan_269 : decode cX12_findPlan 269 = .ok (.istore 9, 2) := by decide +kernel
theorem dX12_findPlan_271 : decode cX12_findPlan 271 = .ok (.iinc 10 1, 3) := by decide +kernel
theorem dX12_findPlan_274 : decode cX12_findPlan 274 = .ok (.goto (-87), 3) := by decide +kernel
theorem dX12_findPlan_277 : decode cX12_findPlan 277 = .ok (.iload 7, 2) := by decide +kernel
theorem dX12_findPlan_279 : decode cX12_findPlan 279 = .ok (.ifCond .ne 7, 3) := by decide +kernel
theorem dX12_findPlan_282 : decode cX12_findPlan 282 = .ok (.iload 9, 2) := by decide +kernel
theorem dX12_findPlan_284 : decode cX12_findPlan 284 = .ok (.istore 6, 2) := by decide +kernel
theorem dX12_findPlan_286 : decode cX12_findPlan 286 = .ok (.aload_n 0, 1) := by decide +kernel
theorem dX12_findPlan_287 : decode cX12_findPlan 287 = .ok (.getfield 99, 3) := by decide +kernel
theorem dX12_findPlan_290 : decode cX12_findPlan 290 = .ok (.iload 7, 2) := by decide +kernel
theorem dX12_findPlan_292 : decode cX12_findPlan 292 = .ok (.iload 8, 2) := by decide +kernel
theorem dX12_findPlan_294 : decode cX12_findPlan 294 = .ok (.iastore, 1) := by decide +kernel
theorem dX12_findPlan_295 : decode cX12_findPlan 295 = .ok (.iload 4, 2) := by decide +kernel
theorem dX12_findPlan_297 : decode cX12_findPlan 297 = .ok (.iconst 1, 1) := by decide +kernel
theorem dX12_findPlan_298 : decode cX12_findPlan 298 = .ok (.iload 8, 2) := by decide +kernel
theorem dX12_findPlan_300 : decode cX12_findPlan 300 = .ok (.ishl, 1) := by decide +kernel
theorem dX12_findPlan_301 : decode cX12_findPlan 301 = .ok (.ior, 1) := by decide +kernel
theorem dX12_findPlan_302 : decode cX12_findPlan 302 = .ok (.istore 4, 2) := by decide +kernel
theorem dX12_findPlan_304 : decode cX12_findPlan 304 = .ok (.iload 8, 2) := by decide +kernel
theorem dX12_findPlan_306 : decode cX12_findPlan 306 = .ok (.istore 5, 2) := by decide +kernel
theorem dX12_findPlan_308 : decode cX12_findPlan 308 = .ok (.iinc 7 1, 3) := by decide +kernel
theorem dX12_findPlan_311 : decode cX12_findPlan 311 = .ok (.goto (-140), 3) := by decide +kernel
theorem dX12_findPlan_314 : decode cX12_findPlan 314 = .ok (.iload 6, 2) := by decide +kernel
theorem dX12_findPlan_316 : decode cX12_findPlan 316 = .ok (.ireturn, 1) := by decide +kernel
theorem dX12_round_0 : decode cX12_round 0 = .ok (.aload_n 0, 1) := by decide +kernel
theorem dX12_round_1 : decode cX12_round 1 = .ok (.iconst 0, 1) := by decide +kernel
theorem dX12_round_2 : decode cX12_round 2 = .ok (.putfield 1, 3) := by decide +kernel
theorem dX12_round_5 : decode cX12_round 5 = .ok (.aload_n 0, 1) := by decide +kernel
theorem dX12_round_6 : decode cX12_round 6 = .ok (.iload_n 1, 1) := by decide +kernel
theorem dX12_round_7 : decode cX12_round 7 = .ok (.invokevirtual 242, 3) := by decide +kernel
theorem dX12_round_10 : decode cX12_round 10 = .ok (.ifCond .ne 5, 3) := by decide +kernel
theorem dX12_round_13 : decode cX12_round 13 = .ok (.iconst 0, 1) := by decide +kernel
theorem dX12_round_14 : decode cX12_round 14 = .ok (.ireturn, 1) := by decide +kernel
theorem dX12_round_15 : decode cX12_round 15 = .ok (.aload_n 0, 1) := by decide +kernel
theorem dX12_round_16 : decode cX12_round 16 = .ok (.iload_n 1, 1) := by decide +kernel
theorem dX12_round_17 : decode cX12_round 17 = .ok (.invokevirtual 259, 3) := by decide +kernel
theorem dX12_round_20 : decode cX12_round 20 = .ok (.ireturn, 1) := by decide +kernel
theorem dX12_plan_0 : decode cX12_plan 0 = .ok (.aload_n 0, 1) := by decide +kernel
theorem dX12_plan_1 : decode cX12_plan 1 = .ok (.iconst 0, 1) := by decide +kernel
theorem dX12_plan_2 : decode cX12_plan 2 = .ok (.putfield 1, 3) := by decide +kernel
theorem dX12_plan_5 : decode cX12_plan 5 = .ok (.aload_n 0, 1) := by decide +kernel
theorem dX12_plan_6 : decode cX12_plan 6 = .ok (.iload_n 1, 1) := by decide +kernel
theorem dX12_plan_7 : decode cX12_plan 7 = .ok (.invokevirtual 242, 3) := by decide +kernel
theorem dX12_plan_10 : decode cX12_plan 10 = .ok (.ifCond .ne 5, 3) := by decide +kernel
theorem dX12_plan_13 : decode cX12_plan 13 = .ok (.iconst 0, 1) := by decide +kernel
theorem dX12_plan_14 : decode cX12_plan 14 = .ok (.ireturn, 1) := by decide +kernel
theorem dX12_plan_15 : decode cX12_plan 15 = .ok (.aload_n 0, 1) := by decide +kernel
theorem dX12_plan_16 : decode cX12_plan 16 = .ok (.iload_n 1, 1) := by decide +kernel
theorem dX12_plan_17 : decode cX12_plan 17 = .ok (.invokevirtual 259, 3) := by decide +kernel
theorem dX12_plan_20 : decode cX12_plan 20 = .ok (.pop, 1) := by decide +kernel
theorem dX12_plan_21 : decode cX12_plan 21 = .ok (.iload_n 2, 1) := by decide +kernel
theorem dX12_plan_22 : decode cX12_plan 22 = .ok (.iconst 0, 1) := by decide +kernel
theorem dX12_plan_23 : decode cX12_plan 23 = .ok (.aload_n 0, 1) := by decide +kernel
theorem dX12_plan_24 : decode cX12_plan 24 = .ok (.getfield 74, 3) := by decide +kernel
theorem dX12_plan_27 : decode cX12_plan 27 = .ok (.iload_n 1, 1) := by decide +kernel
theorem dX12_plan_28 : decode cX12_plan 28 = .ok (.iaload, 1) := by decide +kernel
theorem dX12_plan_29 : decode cX12_plan 29 = .ok (.iconst 1, 1) := by decide +kernel
theorem dX12_plan_30 : decode cX12_plan 30 = .ok (.isub, 1) := by decide +kernel
theorem dX12_plan_31 : decode cX12_plan 31 = .ok (.invokestatic 129, 3) := by decide +kernel
theorem dX12_plan_34 : decode cX12_plan 34 = .ok (.ifCond .eq 12, 3) := by decide +kernel
theorem dX12_plan_37 : decode cX12_plan 37 = .ok (.aload_n 0, 1) := by decide +kernel
theorem dX12_plan_38 : decode cX12_plan 38 = .ok (.getfield 99, 3) := by decide +kernel
theorem dX12_plan_41 : decode cX12_plan 41 = .ok (.iload_n 2, 1) := by decide +kernel
theorem dX12_plan_42 : decode cX12_plan 42 = .ok (.iaload, 1) := by decide +kernel
theorem dX12_plan_43 : decode cX12_plan 43 = .ok (.goto 4, 3) := by decide +kernel
theorem dX12_plan_46 : decode cX12_plan 46 = .ok (.iconst (-1), 1) := by decide +kernel
theorem dX12_plan_47 : decode cX12_plan 47 = .ok (.ireturn, 1) := by decide +kernel
theorem dX12_polish_0 : decode cX12_polish 0 = .ok (.aload_n 0, 1) := by decide +kernel
theorem dX12_polish_1 : decode cX12_polish 1 = .ok (.iconst 0, 1) := by decide +kernel
theorem dX12_polish_2 : decode cX12_polish 2 = .ok (.putfield 1, 3) := by decide +kernel
theorem dX12_polish_5 : decode cX12_polish 5 = .ok (.aload_n 0, 1) := by decide +kernel
theorem dX12_polish_6 : decode cX12_polish 6 = .ok (.iload_n 1, 1) := by decide +kernel
theorem dX12_polish_7 : decode cX12_polish 7 = .ok (.invokevirtual 242, 3) := by decide +kernel
theorem dX12_polish_10 : decode cX12_polish 10 = .ok (.ifCond .ne 5, 3) := by decide +kernel
theorem dX12_polish_13 : decode cX12_polish 13 = .ok (.iconst 0, 1) := by decide +kernel
theorem dX12_polish_14 : decode cX12_polish 14 = .ok (.ireturn, 1) := by decide +kernel
theorem dX12_polish_15 : decode cX12_polish 15 = .ok (.aload_n 0, 1) := by decide +kernel
theorem dX12_polish_16 : decode cX12_polish 16 = .ok (.getfield 92, 3) := by decide +kernel
theorem dX12_polish_19 : decode cX12_polish 19 = .ok (.iload_n 1, 1) := by decide +kernel
theorem dX12_polish_20 : decode cX12_polish 20 = .ok (.baload, 1) := by decide +kernel
theorem dX12_polish_21 : decode cX12_polish 21 = .ok (.ifCond .eq 5, 3) := by decide +kernel
theorem dX12_polish_24 : decode cX12_polish 24 = .ok (.iconst (-1), 1) := by decide +kernel
theorem dX12_polish_25 : decode cX12_polish 25 = .ok (.ireturn, 1) := by decide +kernel
theorem dX12_polish_26 : decode cX12_polish 26 = .ok (.aload_n 0, 1) := by decide +kernel
theorem dX12_polish_27 : decode cX12_polish 27 = .ok (.getfield 74, 3) := by decide +kernel
theorem dX12_polish_30 : decode cX12_polish 30 = .ok (.iload_n 1, 1) := by decide +kernel
theorem dX12_polish_31 : decode cX12_polish 31 = .ok (.iaload, 1) := by decide +kernel
theorem dX12_polish_32 : decode cX12_polish 32 = .ok (.ifCond .ne 6, 3) := by decide +kernel
theorem dX12_polish_35 : decode cX12_polish 35 = .ok (.bipush (-2), 2) := by decide +kernel
theorem dX12_polish_37 : decode cX12_polish 37 = .ok (.ireturn, 1) := by decide +kernel
theorem dX12_polish_38 : decode cX12_polish 38 = .ok (.aload_n 0, 1) := by decide +kernel
theorem dX12_polish_39 : decode cX12_polish 39 = .ok (.iload_n 1, 1) := by decide +kernel
theorem dX12_polish_40 : decode cX12_polish 40 = .ok (.invokevirtual 259, 3) := by decide +kernel
theorem dX12_polish_43 : decode cX12_polish 43 = .ok (.pop, 1) := by decide +kernel
theorem dX12_polish_44 : decode cX12_polish 44 = .ok (.iconst 0, 1) := by decide +kernel
theorem dX12_polish_45 : decode cX12_polish 45 = .ok (.istore_n 2, 1) := by decide +kernel
theorem dX12_polish_46 : decode cX12_polish 46 = .ok (.iload_n 2, 1) := by decide +kernel
theorem dX12_polish_47 : decode cX12_polish 47 = .ok (.aload_n 0, 1) := by decide +kernel
theorem dX12_polish_48 : decode cX12_polish 48 = .ok (.getfield 74, 3) := by decide +kernel
theorem dX12_polish_51 : decode cX12_polish 51 = .ok (.iload_n 1, 1) := by decide +kernel
theorem dX12_polish_52 : decode cX12_polish 52 = .ok (.iaload, 1) := by decide +kernel
theorem dX12_polish_53 : decode cX12_polish 53 = .ok (.if_icmp .ge 52, 3) := by decide +kernel
theorem dX12_polish_56 : decode cX12_polish 56 = .ok (.aload_n 0, 1) := by decide +kernel
theorem dX12_polish_57 : decode cX12_polish 57 = .ok (.getfield 65, 3) := by decide +kernel
theorem dX12_polish_60 : decode cX12_polish 60 = .ok (.iload_n 1, 1) := by decide +kernel
theorem dX12_polish_61 : decode cX12_polish 61 = .ok (.dup2, 1) := by decide +kernel
theorem dX12_polish_62 : decode cX12_polish 62 = .ok (.iaload, 1) := by decide +kernel
theorem dX12_polish_63 : decode cX12_polish 63 = .ok (.aload_n 0, 1) := by decide +kernel
theorem dX12_polish_64 : decode cX12_polish 64 = .ok (.getfield 65, 3) := by decide +kernel
theorem dX12_polish_67 : decode cX12_polish 67 = .ok (.iload_n 1, 1) := by decide +kernel
theorem dX12_polish_68 : decode cX12_polish 68 = .ok (.iaload, 1) := by decide +kernel
theorem dX12_polish_69 : decode cX12_polish 69 = .ok (.aload_n 0, 1) := by decide +kernel
theorem dX12_polish_70 : decode cX12_polish 70 = .ok (.getfield 80, 3) := by decide +kernel
theorem dX12_polish_73 : decode cX12_polish 73 = .ok (.bipush 8, 2) := by decide +kernel
theorem dX12_polish_75 : decode cX12_polish 75 = .ok (.iload_n 1, 1) := by decide +kernel
theorem dX12_polish_76 : decode cX12_polish 76 = .ok (.imul, 1) := by decide +kernel
theorem dX12_polish_77 : decode cX12_polish 77 = .ok (.aload_n 0, 1) := by decide +kernel
theorem dX12_polish_78 : decode cX12_polish 78 = .ok (.getfield 99, 3) := by decide +kernel
theorem dX12_polish_81 : decode cX12_polish 81 = .ok (.iload_n 2, 1) := by decide +kernel
theorem dX12_polish_82 : decode cX12_polish 82 = .ok (.iaload, 1) := by decide +kernel
theorem dX12_polish_83 : decode cX12_polish 83 = .ok (.iadd, 1) := by decide +kernel
theorem dX12_polish_84 : decode cX12_polish 84 = .ok (.iaload, 1) := by decide +kernel
theorem dX12_polish_85 : decode cX12_polish 85 = .ok (.bipush 10, 2) := by decide +kernel
theorem dX12_polish_87 : decode cX12_polish 87 = .ok (.iadd, 1) := by decide +kernel
theorem dX12_polish_88 : decode cX12_polish 88 = .ok (.imul, 1) := by decide +kernel
theorem dX12_polish_89 : decode cX12_polish 89 = .ok (.sipush 999, 3) := by decide +kernel
theorem dX12_polish_92 : decode cX12_polish 92 = .ok (.iadd, 1) := by decide +kernel
theorem dX12_polish_93 : decode cX12_polish 93 = .ok (.sipush 1000, 3) := by decide +kernel
theorem dX12_polish_96 : decode cX12_polish 96 = .ok (.idiv, 1) := by decide +kernel
theorem dX12_polish_97 : decode cX12_polish 97 = .ok (.isub, 1) := by decide +kernel
theorem dX12_polish_98 : decode cX12_polish 98 = .ok (.iastore, 1) := by decide +kernel
theorem dX12_polish_99 : decode cX12_polish 99 = .ok (.iinc 2 1, 3) := by decide +kernel
theorem dX12_polish_102 : decode cX12_polish 102 = .ok (.goto (-56), 3) := by decide +kernel
theorem dX12_polish_105 : decode cX12_polish 105 = .ok (.aload_n 0, 1) := by decide +kernel
theorem dX12_polish_106 : decode cX12_polish 106 = .ok (.getfield 92, 3) := by decide +kernel
theorem dX12_polish_109 : decode cX12_polish 109 = .ok (.iload_n 1, 1) := by decide +kernel
theorem dX12_polish_110 : decode cX12_polish 110 = .ok (.iconst 1, 1) := by decide +kernel
theorem dX12_polish_111 : decode cX12_polish 111 = .ok (.bastore, 1) := by decide +kernel
theorem dX12_polish_112 : decode cX12_polish 112 = .ok (.aload_n 0, 1) := by decide +kernel
theorem dX12_polish_113 : decode cX12_polish 113 = .ok (.getfield 65, 3) := by decide +kernel
theorem dX12_polish_116 : decode cX12_polish 116 = .ok (.iload_n 1, 1) := by decide +kernel
theorem dX12_polish_117 : decode cX12_polish 117 = .ok (.iaload, 1) := by decide +kernel
theorem dX12_polish_118 : decode cX12_polish 118 = .ok (.ireturn, 1) := by decide +kernel
theorem dX12_told_0 : decode cX12_told 0 = .ok (.aload_n 0, 1) := by decide +kernel
theorem dX12_told_1 : decode cX12_told 1 = .ok (.iconst 0, 1) := by decide +kernel
theorem dX12_told_2 : decode cX12_told 2 = .ok (.putfield 1, 3) := by decide +kernel
theorem dX12_told_5 : decode cX12_told 5 = .ok (.aload_n 0, 1) := by decide +kernel
theorem dX12_told_6 : decode cX12_told 6 = .ok (.iload_n 1, 1) := by decide +kernel
theorem dX12_told_7 : decode cX12_told 7 = .ok (.invokevirtual 242, 3) := by decide +kernel
theorem dX12_told_10 : decode cX12_told 10 = .ok (.ifCond .eq 18, 3) := by decide +kernel
theorem dX12_told_13 : decode cX12_told 13 = .ok (.aload_n 0, 1) := by decide +kernel
theorem dX12_told_14 : decode cX12_told 14 = .ok (.iload_n 2, 1) := by decide +kernel
theorem dX12_told_15 : decode cX12_told 15 = .ok (.iconst 0, 1) := by decide +kernel
theorem dX12_told_16 : decode cX12_told 16 = .ok (.bipush 6, 2) := by decide +kernel
theorem dX12_told_18 : decode cX12_told 18 = .ok (.invokestatic 129, 3) := by decide +kernel
theorem dX12_told_21 : decode cX12_told 21 = .ok (.iconst 2, 1) := by decide +kernel
theorem dX12_told_22 : decode cX12_told 22 = .ok (.invokevirtual 133, 3) := by decide +kernel
theorem dX12_told_25 : decode cX12_told 25 = .ok (.ifCond .ne 5, 3) := by decide +kernel
theorem dX12_told_28 : decode cX12_told 28 = .ok (.iconst 0, 1) := by decide +kernel
theorem dX12_told_29 : decode cX12_told 29 = .ok (.ireturn, 1) := by decide +kernel
theorem dX12_told_30 : decode cX12_told 30 = .ok (.iload_n 2, 1) := by decide +kernel
theorem dX12_told_31 : decode cX12_told 31 = .ok (.tableswitch 87 0 5 #[37, 44, 51, 58, 73, 80], 37) := by decide +kernel
theorem dX12_told_68 : decode cX12_told 68 = .ok (.aload_n 0, 1) := by decide +kernel
theorem dX12_told_69 : decode cX12_told 69 = .ok (.getfield 65, 3) := by decide +kernel
theorem dX12_told_72 : decode cX12_told 72 = .ok (.iload_n 1, 1) := by decide +kernel
theorem dX12_told_73 : decode cX12_told 73 = .ok (.iaload, 1) := by decide +kernel
theorem dX12_told_74 : decode cX12_told 74 = .ok (.ireturn, 1) := by decide +kernel
theorem dX12_told_75 : decode cX12_told 75 = .ok (.aload_n 0, 1) := by decide +kernel
theorem dX12_told_76 : decode cX12_told 76 = .ok (.getfield 68, 3) := by decide +kernel
theorem dX12_told_79 : decode cX12_told 79 = .ok (.iload_n 1, 1) := by decide +kernel
theorem dX12_told_80 : decode cX12_told 80 = .ok (.iaload, 1) := by decide +kernel
theorem dX12_told_81 : decode cX12_told 81 = .ok (.ireturn, 1) := by decide +kernel
theorem dX12_told_82 : decode cX12_told 82 = .ok (.aload_n 0, 1) := by decide +kernel
theorem dX12_told_83 : decode cX12_told 83 = .ok (.getfield 71, 3) := by decide +kernel
theorem dX12_told_86 : decode cX12_told 86 = .ok (.iload_n 1, 1) := by decide +kernel
theorem dX12_told_87 : decode cX12_told 87 = .ok (.iaload, 1) := by decide +kernel
theorem dX12_told_88 : decode cX12_told 88 = .ok (.ireturn, 1) := by decide +kernel
theorem dX12_told_89 : decode cX12_told 89 = .ok (.aload_n 0, 1) := by decide +kernel
theorem dX12_told_90 : decode cX12_told 90 = .ok (.getfield 92, 3) := by decide +kernel
theorem dX12_told_93 : decode cX12_told 93 = .ok (.iload_n 1, 1) := by decide +kernel
theorem dX12_told_94 : decode cX12_told 94 = .ok (.baload, 1) := by decide +kernel
theorem dX12_told_95 : decode cX12_told 95 = .ok (.ifCond .eq 7, 3) := by decide +kernel
theorem dX12_told_98 : decode cX12_told 98 = .ok (.iconst 1, 1) := by decide +kernel
theorem dX12_told_99 : decode cX12_told 99 = .ok (.goto 4, 3) := by decide +kernel
theorem dX12_told_102 : decode cX12_told 102 = .ok (.iconst 0, 1) := by decide +kernel
theorem dX12_told_103 : decode cX12_told 103 = .ok (.ireturn, 1) := by decide +kernel
theorem dX12_told_104 : decode cX12_told 104 = .ok (.aload_n 0, 1) := by decide +kernel
theorem dX12_told_105 : decode cX12_told 105 = .ok (.getfield 83, 3) := by decide +kernel
theorem dX12_told_108 : decode cX12_told 108 = .ok (.iload_n 1, 1) := by decide +kernel
theorem dX12_told_109 : decode cX12_told 109 = .ok (.iaload, 1) := by decide +kernel
theorem dX12_told_110 : decode cX12_told 110 = .ok (.ireturn, 1) := by decide +kernel
theorem dX12_told_111 : decode cX12_told 111 = .ok (.aload_n 0, 1) := by decide +kernel
theorem dX12_told_112 : decode cX12_told 112 = .ok (.getfield 86, 3) := by decide +kernel
theorem dX12_told_115 : decode cX12_told 115 = .ok (.iload_n 1, 1) := by decide +kernel
theorem dX12_told_116 : decode cX12_told 116 = .ok (.iaload, 1) := by decide +kernel
theorem dX12_told_117 : decode cX12_told 117 = .ok (.ireturn, 1) := by decide +kernel
theorem dX12_told_118 : decode cX12_told 118 = .ok (.aload_n 0, 1) := by decide +kernel
theorem dX12_told_119 : decode cX12_told 119 = .ok (.getfield 89, 3) := by decide +kernel
theorem dX12_told_122 : decode cX12_told 122 = .ok (.iload_n 1, 1) := by decide +kernel
theorem dX12_told_123 : decode cX12_told 123 = .ok (.iaload, 1) := by decide +kernel
theorem dX12_told_124 : decode cX12_told 124 = .ok (.ireturn, 1) := by decide +kernel
theorem dX12_isPair_0 : decode cX12_isPair 0 = .ok (.aload_n 0, 1) := by decide +kernel
theorem dX12_isPair_1 : decode cX12_isPair 1 = .ok (.getfield 65, 3) := by decide +kernel
theorem dX12_isPair_4 : decode cX12_isPair 4 = .ok (.iload_n 1, 1) := by decide +kernel
theorem dX12_isPair_5 : decode cX12_isPair 5 = .ok (.iaload, 1) := by decide +kernel
theorem dX12_isPair_6 : decode cX12_isPair 6 = .ok (.aload_n 0, 1) := by decide +kernel
theorem dX12_isPair_7 : decode cX12_isPair 7 = .ok (.getfield 65, 3) := by decide +kernel
theorem dX12_isPair_10 : decode cX12_isPair 10 = .ok (.iload_n 2, 1) := by decide +kernel
theorem dX12_isPair_11 : decode cX12_isPair 11 = .ok (.iaload, 1) := by decide +kernel
theorem dX12_isPair_12 : decode cX12_isPair 12 = .ok (.if_icmp .le 12, 3) := by decide +kernel
theorem dX12_isPair_15 : decode cX12_isPair 15 = .ok (.aload_n 0, 1) := by decide +kernel
theorem dX12_isPair_16 : decode cX12_isPair 16 = .ok (.getfield 65, 3) := by decide +kernel
theorem dX12_isPair_19 : decode cX12_isPair 19 = .ok (.iload_n 1, 1) := by decide +kernel
theorem dX12_isPair_20 : decode cX12_isPair 20 = .ok (.iaload, 1) := by decide +kernel
theorem dX12_isPair_21 : decode cX12_isPair 21 = .ok (.goto 9, 3) := by decide +kernel
theorem dX12_isPair_24 : decode cX12_isPair 24 = .ok (.aload_n 0, 1) := by decide +kernel
theorem dX12_isPair_25 : decode cX12_isPair 25 = .ok (.getfield 65, 3) := by decide +kernel
theorem dX12_isPair_28 : decode cX12_isPair 28 = .ok (.iload_n 2, 1) := by decide +kernel
theorem dX12_isPair_29 : decode cX12_isPair 29 = .ok (.iaload, 1) := by decide +kernel
theorem dX12_isPair_30 : decode cX12_isPair 30 = .ok (.istore_n 3, 1) := by decide +kernel
theorem dX12_isPair_31 : decode cX12_isPair 31 = .ok (.bipush 10, 2) := by decide +kernel
theorem dX12_isPair_33 : decode cX12_isPair 33 = .ok (.aload_n 0, 1) := by decide +kernel
theorem dX12_isPair_34 : decode cX12_isPair 34 = .ok (.getfield 65, 3) := by decide +kernel
theorem dX12_isPair_37 : decode cX12_isPair 37 = .ok (.iload_n 1, 1) := by decide +kernel
theorem dX12_isPair_38 : decode cX12_isPair 38 = .ok (.iaload, 1) := by decide +kernel
theorem dX12_isPair_39 : decode cX12_isPair 39 = .ok (.aload_n 0, 1) := by decide +kernel
theorem dX12_isPair_40 : decode cX12_isPair 40 = .ok (.getfield 65, 3) := by decide +kernel
theorem dX12_isPair_43 : decode cX12_isPair 43 = .ok (.iload_n 2, 1) := by decide +kernel
theorem dX12_isPair_44 : decode cX12_isPair 44 = .ok (.iaload, 1) := by decide +kernel
theorem dX12_isPair_45 : decode cX12_isPair 45 = .ok (.isub, 1) := by decide +kernel
theorem dX12_isPair_46 : decode cX12_isPair 46 = .ok (.invokestatic 245, 3) := by decide +kernel
theorem dX12_isPair_49 : decode cX12_isPair 49 = .ok (.imul, 1) := by decide +kernel
theorem dX12_isPair_50 : decode cX12_isPair 50 = .ok (.iload_n 3, 1) := by decide +kernel
theorem dX12_isPair_51 : decode cX12_isPair 51 = .ok (.if_icmp .gt 7, 3) := by decide +kernel
theorem dX12_isPair_54 : decode cX12_isPair 54 = .ok (.iconst 1, 1) := by decide +kernel
theorem dX12_isPair_55 : decode cX12_isPair 55 = .ok (.goto 4, 3) := by decide +kernel
theorem dX12_isPair_58 : decode cX12_isPair 58 = .ok (.iconst 0, 1) := by decide +kernel
theorem dX12_isPair_59 : decode cX12_isPair 59 = .ok (.ireturn, 1) := by decide +kernel
theorem dX12_isAhead_0 : decode cX12_isAhead 0 = .ok (.iconst 0, 1) := by decide +kernel
theorem dX12_isAhead_1 : decode cX12_isAhead 1 = .ok (.istore_n 1, 1) := by decide +kernel
theorem dX12_isAhead_2 : decode cX12_isAhead 2 = .ok (.iload_n 1, 1) := by decide +kernel
theorem dX12_isAhead_3 : decode cX12_isAhead 3 = .ok (.aload_n 0, 1) := by decide +kernel
theorem dX12_isAhead_4 : decode cX12_isAhead 4 = .ok (.getfield 262, 3) := by decide +kernel
theorem dX12_isAhead_7 : decode cX12_isAhead 7 = .ok (.if_icmp .ge 68, 3) := by decide +kernel
theorem dX12_isAhead_10 : decode cX12_isAhead 10 = .ok (.aload_n 0, 1) := by decide +kernel
theorem dX12_isAhead_11 : decode cX12_isAhead 11 = .ok (.getfield 105, 3) := by decide +kernel
theorem dX12_isAhead_14 : decode cX12_isAhead 14 = .ok (.iload_n 1, 1) := by decide +kernel
theorem dX12_isAhead_15 : decode cX12_isAhead 15 = .ok (.iaload, 1) := by decide +kernel
theorem dX12_isAhead_16 : decode cX12_isAhead 16 = .ok (.aload_n 0, 1) := by decide +kernel
theorem dX12_isAhead_17 : decode cX12_isAhead 17 = .ok (.getfield 108, 3) := by decide +kernel
theorem dX12_isAhead_20 : decode cX12_isAhead 20 = .ok (.iload_n 1, 1) := by decide +kernel
theorem dX12_isAhead_21 : decode cX12_isAhead 21 = .ok (.iaload, 1) := by decide +kernel
theorem dX12_isAhead_22 : decode cX12_isAhead 22 = .ok (.if_icmp .ne 6, 3) := by decide +kernel
theorem dX12_isAhead_25 : decode cX12_isAhead 25 = .ok (.goto 44, 3) := by decide +kernel
theorem dX12_isAhead_28 : decode cX12_isAhead 28 = .ok (.aload_n 0, 1) := by decide +kernel
theorem dX12_isAhead_29 : decode cX12_isAhead 29 = .ok (.getfield 105, 3) := by decide +kernel
theorem dX12_isAhead_32 : decode cX12_isAhead 32 = .ok (.iload_n 1, 1) := by decide +kernel
theorem dX12_isAhead_33 : decode cX12_isAhead 33 = .ok (.iaload, 1) := by decide +kernel
theorem dX12_isAhead_34 : decode cX12_isAhead 34 = .ok (.iconst (-1), 1) := by decide +kernel
theorem dX12_isAhead_35 : decode cX12_isAhead 35 = .ok (.if_icmp .eq 32, 3) := by decide +kernel
theorem dX12_isAhead_38 : decode cX12_isAhead 38 = .ok (.aload_n 0, 1) := by decide +kernel
theorem dX12_isAhead_39 : decode cX12_isAhead 39 = .ok (.getfield 108, 3) := by decide +kernel
theorem dX12_isAhead_42 : decode cX12_isAhead 42 = .ok (.iload_n 1, 1) := by decide +kernel
theorem dX12_isAhead_43 : decode cX12_isAhead 43 = .ok (.iaload, 1) := by decide +kernel
theorem dX12_isAhead_44 : decode cX12_isAhead 44 = .ok (.iconst (-1), 1) := by decide +kernel
theorem dX12_isAhead_45 : decode cX12_isAhead 45 = .ok (.if_icmp .eq 18, 3) := by decide +kernel
theorem dX12_isAhead_48 : decode cX12_isAhead 48 = .ok (.aload_n 0, 1) := by decide +kernel
theorem dX12_isAhead_49 : decode cX12_isAhead 49 = .ok (.getfield 105, 3) := by decide +kernel
theorem dX12_isAhead_52 : decode cX12_isAhead 52 = .ok (.iload_n 1, 1) := by decide +kernel
theorem dX12_isAhead_53 : decode cX12_isAhead 53 = .ok (.iaload, 1) := by decide +kernel
theorem dX12_isAhead_54 : decode cX12_isAhead 54 = .ok (.aload_n 0, 1) := by decide +kernel
theorem dX12_isAhead_55 : decode cX12_isAhead 55 = .ok (.getfield 108, 3) := by decide +kernel
theorem dX12_isAhead_58 : decode cX12_isAhead 58 = .ok (.iload_n 1, 1) := by decide +kernel
theorem dX12_isAhead_59 : decode cX12_isAhead 59 = .ok (.iaload, 1) := by decide +kernel
theorem dX12_isAhead_60 : decode cX12_isAhead 60 = .ok (.if_icmp .ge 7, 3) := by decide +kernel
theorem dX12_isAhead_63 : decode cX12_isAhead 63 = .ok (.iconst 1, 1) := by decide +kernel
theorem dX12_isAhead_64 : decode cX12_isAhead 64 = .ok (.goto 4, 3) := by decide +kernel
theorem dX12_isAhead_67 : decode cX12_isAhead 67 = .ok (.iconst 0, 1) := by decide +kernel
theorem dX12_isAhead_68 : decode cX12_isAhead 68 = .ok (.ireturn, 1) := by decide +kernel
theorem dX12_isAhead_69 : decode cX12_isAhead 69 = .ok (.iinc 1 1, 3) := by decide +kernel
theorem dX12_isAhead_72 : decode cX12_isAhead 72 = .ok (.goto (-70), 3) := by decide +kernel
theorem dX12_isAhead_75 : decode cX12_isAhead 75 = .ok (.iconst 0, 1) := by decide +kernel
theorem dX12_isAhead_76 : decode cX12_isAhead 76 = .ok (.ireturn, 1) := by decide +kernel
theorem dX12_lot_0 : decode cX12_lot 0 = .ok (.aload_n 0, 1) := by decide +kernel
theorem dX12_lot_1 : decode cX12_lot 1 = .ok (.iconst 0, 1) := by decide +kernel
theorem dX12_lot_2 : decode cX12_lot 2 = .ok (.putfield 1, 3) := by decide +kernel
theorem dX12_lot_5 : decode cX12_lot 5 = .ok (.iload_n 1, 1) := by decide +kernel
theorem dX12_lot_6 : decode cX12_lot 6 = .ok (.iconst 0, 1) := by decide +kernel
theorem dX12_lot_7 : decode cX12_lot 7 = .ok (.ldc_w 282, 3) := by decide +kernel
theorem dX12_lot_10 : decode cX12_lot 10 = .ok (.invokestatic 129, 3) := by decide +kernel
theorem dX12_lot_13 : decode cX12_lot 13 = .ok (.ifCond .eq 18, 3) := by decide +kernel
theorem dX12_lot_16 : decode cX12_lot 16 = .ok (.iload_n 2, 1) := by decide +kernel
theorem dX12_lot_17 : decode cX12_lot 17 = .ok (.iconst 0, 1) := by decide +kernel
theorem dX12_lot_18 : decode cX12_lot 18 = .ok (.ldc_w 282, 3) := by decide +kernel
theorem dX12_lot_21 : decode cX12_lot 21 = .ok (.invokestatic 129, 3) := by decide +kernel
theorem dX12_lot_24 : decode cX12_lot 24 = .ok (.ifCond .eq 7, 3) := by decide +kernel
theorem dX12_lot_27 : decode cX12_lot 27 = .ok (.iconst 1, 1) := by decide +kernel
theorem dX12_lot_28 : decode cX12_lot 28 = .ok (.goto 4, 3) := by decide +kernel
theorem dX12_lot_31 : decode cX12_lot 31 = .ok (.iconst 0, 1) := by decide +kernel
theorem dX12_lot_32 : decode cX12_lot 32 = .ok (.istore_n 3, 1) := by decide +kernel
theorem dX12_lot_33 : decode cX12_lot 33 = .ok (.iload_n 2, 1) := by decide +kernel
theorem dX12_lot_34 : decode cX12_lot 34 = .ok (.i2l, 1) := by decide +kernel
theorem dX12_lot_35 : decode cX12_lot 35 = .ok (.bipush 20, 2) := by decide +kernel
theorem dX12_lot_37 : decode cX12_lot 37 = .ok (.lshl, 1) := by decide +kernel
theorem dX12_lot_38 : decode cX12_lot 38 = .ok (.iload_n 1, 1) := by decide +kernel
theorem dX12_lot_39 : decode cX12_lot 39 = .ok (.i2l, 1) := by decide +kernel
theorem dX12_lot_40 : decode cX12_lot 40 = .ok (.lor, 1) := by decide +kernel
theorem dX12_lot_41 : decode cX12_lot 41 = .ok (.lstore 4, 2) := by decide +kernel
theorem dX12_lot_43 : decode cX12_lot 43 = .ok (.aload_n 0, 1) := by decide +kernel
theorem dX12_lot_44 : decode cX12_lot 44 = .ok (.iload_n 3, 1) := by decide +kernel
theorem dX12_lot_45 : decode cX12_lot 45 = .ok (.ifCond .eq 19, 3) := by decide +kernel
theorem dX12_lot_48 : decode cX12_lot 48 = .ok (.lload 4, 2) := by decide +kernel
theorem dX12_lot_50 : decode cX12_lot 50 = .ok (.aload_n 0, 1) := by decide +kernel
theorem dX12_lot_51 : decode cX12_lot 51 = .ok (.getfield 239, 3) := by decide +kernel
theorem dX12_lot_54 : decode cX12_lot 54 = .ok (.lshr, 1) := by decide +kernel
theorem dX12_lot_55 : decode cX12_lot 55 = .ok (.lconst 0, 1) := by decide +kernel
theorem dX12_lot_56 : decode cX12_lot 56 = .ok (.lcmp, 1) := by decide +kernel
theorem dX12_lot_57 : decode cX12_lot 57 = .ok (.ifCond .ne 7, 3) := by decide +kernel
theorem dX12_lot_60 : decode cX12_lot 60 = .ok (.iconst 1, 1) := by decide +kernel
theorem dX12_lot_61 : decode cX12_lot 61 = .ok (.goto 4, 3) := by decide +kernel
theorem dX12_lot_64 : decode cX12_lot 64 = .ok (.iconst 0, 1) := by decide +kernel
theorem dX12_lot_65 : decode cX12_lot 65 = .ok (.iconst 1, 1) := by decide +kernel
theorem dX12_lot_66 : decode cX12_lot 66 = .ok (.invokevirtual 133, 3) := by decide +kernel
theorem dX12_lot_69 : decode cX12_lot 69 = .ok (.ifCond .ne 5, 3) := by decide +kernel
theorem dX12_lot_72 : decode cX12_lot 72 = .ok (.iconst 0, 1) := by decide +kernel
theorem dX12_lot_73 : decode cX12_lot 73 = .ok (.ireturn, 1) := by decide +kernel
theorem dX12_lot_74 : decode cX12_lot 74 = .ok (.iconst 0, 1) := by decide +kernel
theorem dX12_lot_75 : decode cX12_lot 75 = .ok (.istore 6, 2) := by decide +kernel
theorem dX12_lot_77 : decode cX12_lot 77 = .ok (.iconst 0, 1) := by decide +kernel
theorem dX12_lot_78 : decode cX12_lot 78 = .ok (.istore 7, 2) := by decide +kernel
theorem dX12_lot_80 : decode cX12_lot 80 = .ok (.iconst 0, 1) := by decide +kernel
theorem dX12_lot_81 : decode cX12_lot 81 = .ok (.istore 8, 2) := by decide +kernel
theorem dX12_lot_83 : decode cX12_lot 83 = .ok (.iconst 0, 1) := by decide +kernel
theorem dX12_lot_84 : decode cX12_lot 84 = .ok (.istore 9, 2) := by decide +kernel
theorem dX12_lot_86 : decode cX12_lot 86 = .ok (.iload 9, 2) := by decide +kernel
theorem dX12_lot_88 : decode cX12_lot 88 = .ok (.aload_n 0, 1) := by decide +kernel
theorem dX12_lot_89 : decode cX12_lot 89 = .ok (.getfield 239, 3) := by decide +kernel
theorem dX12_lot_92 : decode cX12_lot 92 = .ok (.if_icmp .ge 101, 3) := by decide +kernel
theorem dX12_lot_95 : decode cX12_lot 95 = .ok (.lload 4, 2) := by decide +kernel
theorem dX12_lot_97 : decode cX12_lot 97 = .ok (.iload 9, 2) := by decide +kernel
theorem dX12_lot_99 : decode cX12_lot 99 = .ok (.lshr, 1) := by decide +kernel
theorem dX12_lot_100 : decode cX12_lot 100 = .ok (.lconst 1, 1) := by decide +kernel
theorem dX12_lot_101 : decode cX12_lot 101 = .ok (.land, 1) := by decide +kernel
theorem dX12_lot_102 : decode cX12_lot 102 = .ok (.lconst 0, 1) := by decide +kernel
theorem dX12_lot_103 : decode cX12_lot 103 = .ok (.lcmp, 1) := by decide +kernel
theorem dX12_lot_104 : decode cX12_lot 104 = .ok (.ifCond .ne 6, 3) := by decide +kernel
theorem dX12_lot_107 : decode cX12_lot 107 = .ok (.goto 80, 3) := by decide +kernel
theorem dX12_lot_110 : decode cX12_lot 110 = .ok (.iinc 6 1, 3) := by decide +kernel
theorem dX12_lot_113 : decode cX12_lot 113 = .ok (.iload 7, 2) := by decide +kernel
theorem dX12_lot_115 : decode cX12_lot 115 = .ok (.ifCond .ne 25, 3) := by decide +kernel
theorem dX12_lot_118 : decode cX12_lot 118 = .ok (.aload_n 0, 1) := by decide +kernel
theorem dX12_lot_119 : decode cX12_lot 119 = .ok (.getfield 86, 3) := by decide +kernel
theorem dX12_lot_122 : decode cX12_lot 122 = .ok (.iload 9, 2) := by decide +kernel
theorem dX12_lot_124 : decode cX12_lot 124 = .ok (.iaload, 1) := by decide +kernel
theorem dX12_lot_125 : decode cX12_lot 125 = .ok (.iconst (-1), 1) := by decide +kernel
theorem dX12_lot_126 : decode cX12_lot 126 = .ok (.if_icmp .ne 14, 3) := by decide +kernel
theorem dX12_lot_129 : decode cX12_lot 129 = .ok (.aload_n 0, 1) := by decide +kernel
theorem dX12_lot_130 : decode cX12_lot 130 = .ok (.getfield 89, 3) := by decide +kernel
theorem dX12_lot_133 : decode cX12_lot 133 = .ok (.iload 9, 2) := by decide +kernel
theorem dX12_lot_135 : decode cX12_lot 135 = .ok (.iaload, 1) := by decide +kernel
theorem dX12_lot_136 : decode cX12_lot 136 = .ok (.iconst (-1), 1) := by decide +kernel
theorem dX12_lot_137 : decode cX12_lot 137 = .ok (.if_icmp .eq 7, 3) := by decide +kernel
theorem dX12_lot_140 : decode cX12_lot 140 = .ok (.iconst 1, 1) := by decide +kernel
theorem dX12_lot_141 : decode cX12_lot 141 = .ok (.goto 4, 3) := by decide +kernel
theorem dX12_lot_144 : decode cX12_lot 144 = .ok (.iconst 0, 1) := by decide +kernel
theorem dX12_lot_145 : decode cX12_lot 145 = .ok (.istore 7, 2) := by decide +kernel
theorem dX12_lot_147 : decode cX12_lot 147 = .ok (.iload 8, 2) := by decide +kernel
theorem dX12_lot_149 : decode cX12_lot 149 = .ok (.ifCond .ne 31, 3) := by decide +kernel
theorem dX12_lot_152 : decode cX12_lot 152 = .ok (.aload_n 0, 1) := by decide +kernel
theorem dX12_lot_153 : decode cX12_lot 153 = .ok (.getfield 83, 3) := by decide +kernel
theorem dX12_lot_156 : decode cX12_lot 156 = .ok (.iload 9, 2) := by decide +kernel
theorem dX12_lot_158 : decode cX12_lot 158 = .ok (.iaload, 1) := by decide +kernel
theorem dX12_lot_159 : decode cX12_lot 159 = .ok (.iconst (-1), 1) := by decide +kernel
theorem dX12_lot_160 : decode cX12_lot 160 = .ok (.if_icmp .eq 24, 3) := by decide +kernel
theorem dX12_lot_163 : decode cX12_lot 163 = .ok (.lload 4, 2) := by decide +kernel
theorem dX12_lot_165 : decode cX12_lot 165 = .ok (.aload_n 0, 1) := by decide +kernel
theorem dX12_lot_166 : decode cX12_lot 166 = .ok (.getfield 83, 3) := by decide +kernel
theorem dX12_lot_169 : decode cX12_lot 169 = .ok (.iload 9, 2) := by decide +kernel
theorem dX12_lot_171 : decode cX12_lot 171 = .ok (.iaload, 1) := by decide +kernel
theorem dX12_lot_172 : decode cX12_lot 172 = .ok (.lshr, 1) := by decide +kernel
theorem dX12_lot_173 : decode cX12_lot 173 = .ok (.lconst 1, 1) := by decide +kernel
theorem dX12_lot_174 : decode cX12_lot 174 = .ok (.land, 1) := by decide +kernel
theorem dX12_lot_175 : decode cX12_lot 175 = .ok (.lconst 0, 1) := by decide +kernel
theorem dX12_lot_176 : decode cX12_lot 176 = .ok (.lcmp, 1) := by decide +kernel
theorem dX12_lot_177 : decode cX12_lot 177 = .ok (.ifCond .ne 7, 3) := by decide +kernel
theorem dX12_lot_180 : decode cX12_lot 180 = .ok (.iconst 1, 1) := by decide +kernel
theorem dX12_lot_181 : decode cX12_lot 181 = .ok (.goto 4, 3) := by decide +kernel
theorem dX12_lot_184 : decode cX12_lot 184 = .ok (.iconst 0, 1) := by decide +kernel
theorem dX12_lot_185 : decode cX12_lot 185 = .ok (.istore 8, 2) := by decide +kernel
theorem dX12_lot_187 : decode cX12_lot 187 = .ok (.iinc 9 1, 3) := by decide +kernel
theorem dX12_lot_190 : decode cX12_lot 190 = .ok (.goto (-104), 3) := by decide +kernel
theorem dX12_lot_193 : decode cX12_lot 193 = .ok (.iload 6, 2) := by decide +kernel
theorem dX12_lot_195 : decode cX12_lot 195 = .ok (.iconst 1, 1) := by decide +kernel
theorem dX12_lot_196 : decode cX12_lot 196 = .ok (.bipush 10, 2) := by decide +kernel
theorem dX12_lot_198 : decode cX12_lot 198 = .ok (.invokestatic 129, 3) := by decide +kernel
theorem dX12_lot_201 : decode cX12_lot 201 = .ok (.ifCond .ne 5, 3) := by decide +kernel
theorem dX12_lot_204 : decode cX12_lot 204 = .ok (.iconst (-1), 1) := by decide +kernel
theorem dX12_lot_205 : decode cX12_lot 205 = .ok (.ireturn, 1) := by decide +kernel
theorem dX12_lot_206 : decode cX12_lot 206 = .ok (.iload 7, 2) := by decide +kernel
theorem dX12_lot_208 : decode cX12_lot 208 = .ok (.ifCond .eq 6, 3) := by decide +kernel
theorem dX12_lot_211 : decode cX12_lot 211 = .ok (.bipush (-2), 2) := by decide +kernel
theorem dX12_lot_213 : decode cX12_lot 213 = .ok (.ireturn, 1) := by decide +kernel
theorem dX12_lot_214 : decode cX12_lot 214 = .ok (.iload 8, 2) := by decide +kernel
theorem dX12_lot_216 : decode cX12_lot 216 = .ok (.ifCond .eq 6, 3) := by decide +kernel
theorem dX12_lot_219 : decode cX12_lot 219 = .ok (.bipush (-3), 2) := by decide +kernel
theorem dX12_lot_221 : decode cX12_lot 221 = .ok (.ireturn, 1) := by decide +kernel
theorem dX12_lot_222 : decode cX12_lot 222 = .ok (.aload_n 0, 1) := by decide +kernel
theorem dX12_lot_223 : decode cX12_lot 223 = .ok (.getfield 283, 3) := by decide +kernel
theorem dX12_lot_226 : decode cX12_lot 226 = .ok (.bipush 6, 2) := by decide +kernel
theorem dX12_lot_228 : decode cX12_lot 228 = .ok (.if_icmp .ne 6, 3) := by decide +kernel
theorem dX12_lot_231 : decode cX12_lot 231 = .ok (.bipush (-4), 2) := by decide +kernel
theorem dX12_lot_233 : decode cX12_lot 233 = .ok (.ireturn, 1) := by decide +kernel
theorem dX12_lot_234 : decode cX12_lot 234 = .ok (.iconst 0, 1) := by decide +kernel
theorem dX12_lot_235 : decode cX12_lot 235 = .ok (.istore 9, 2) := by decide +kernel
theorem dX12_lot_237 : decode cX12_lot 237 = .ok (.iload 9, 2) := by decide +kernel
theorem dX12_lot_239 : decode cX12_lot 239 = .ok (.aload_n 0, 1) := by decide +kernel
theorem dX12_lot_240 : decode cX12_lot 240 = .ok (.getfield 239, 3) := by decide +kernel
theorem dX12_lot_243 : decode cX12_lot 243 = .ok (.if_icmp .ge 32, 3) := by decide +kernel
theorem dX12_lot_246 : decode cX12_lot 246 = .ok (.lload 4, 2) := by decide +kernel
theorem dX12_lot_248 : decode cX12_lot 248 = .ok (.iload 9, 2) := by decide +kernel
theorem dX12_lot_250 : decode cX12_lot 250 = .ok (.lshr, 1) := by decide +kernel
theorem dX12_lot_251 : decode cX12_lot 251 = .ok (.lconst 1, 1) := by decide +kernel
theorem dX12_lot_252 : decode cX12_lot 252 = .ok (.land, 1) := by decide +kernel
theorem dX12_lot_253 : decode cX12_lot 253 = .ok (.lconst 1, 1) := by decide +kernel
theorem dX12_lot_254 : decode cX12_lot 254 = .ok (.lcmp, 1) := by decide +kernel
theorem dX12_lot_255 : decode cX12_lot 255 = .ok (.ifCond .ne 14, 3) := by decide +kernel
theorem dX12_lot_258 : decode cX12_lot 258 = .ok (.aload_n 0, 1) := by decide +kernel
theorem dX12_lot_259 : decode cX12_lot 259 = .ok (.getfield 86, 3) := by decide +kernel
theorem dX12_lot_262 : decode cX12_lot 262 = .ok (.iload 9, 2) := by decide +kernel
theorem dX12_lot_264 : decode cX12_lot 264 = .ok (.aload_n 0, 1) := by decide +kernel
theorem dX12_lot_265 : decode cX12_lot 265 = .ok (.getfield 283, 3) := by decide +kernel
theorem dX12_lot_268 : decode cX12_lot 268 = .ok (.iastore, 1) := by decide +kernel
theorem dX12_lot_269 : decode cX12_lot 269 = .ok (.iinc 9 1, 3) := by decide +kernel
theorem dX12_lot_272 : decode cX12_lot 272 = .ok (.goto (-35), 3) := by decide +kernel
theorem dX12_lot_275 : decode cX12_lot 275 = .ok (.iconst 0, 1) := by decide +kernel
theorem dX12_lot_276 : decode cX12_lot 276 = .ok (.istore 9, 2) := by decide +kernel
theorem dX12_lot_278 : decode cX12_lot 278 = .ok (.iload 9, 2) := by decide +kernel
theorem dX12_lot_280 : decode cX12_lot 280 = .ok (.iconst 4, 1) := by decide +kernel
theorem dX12_lot_281 : decode cX12_lot 281 = .ok (.if_icmp .ge 24, 3) := by decide +kernel
theorem dX12_lot_284 : decode cX12_lot 284 = .ok (.aload_n 0, 1) := by decide +kernel
theorem dX12_lot_285 : decode cX12_lot 285 = .ok (.getfield 111, 3) := by decide +kernel
theorem dX12_lot_288 : decode cX12_lot 288 = .ok (.iconst 4, 1) := by decide +kernel
theorem dX12_lot_289 : decode cX12_lot 289 = .ok (.aload_n 0, 1) := by decide +kernel
theorem dX12_lot_290 : decode cX12_lot 290 = .ok (.getfield 283, 3) := by decide +kernel
theorem dX12_lot_293 : decode cX12_lot 293 = .ok (.imul, 1) := by decide +kernel
theorem dX12_lot_294 : decode cX12_lot 294 = .ok (.iload 9, 2) := by decide +kernel
theorem dX12_lot_296 : decode cX12_lot 296 = .ok (.iadd, 1) := by decide +kernel
theorem dX12_lot_297 : decode cX12_lot 297 = .ok (.iconst 0, 1) := by decide +kernel
theorem dX12_lot_298 : decode cX12_lot 298 = .ok (.iastore, 1) := by decide +kernel
theorem dX12_lot_299 : decode cX12_lot 299 = .ok (.iinc 9 1, 3) := by decide +kernel
theorem dX12_lot_302 : decode cX12_lot 302 = .ok (.goto (-24), 3) := by decide +kernel
theorem dX12_lot_305 : decode cX12_lot 305 = .ok (.aload_n 0, 1) := by decide +kernel
theorem dX12_lot_306 : decode cX12_lot 306 = .ok (.dup, 1) := by decide +kernel
theorem dX12_lot_307 : decode cX12_lot 307 = .ok (.getfield 283, 3) := by decide +kernel
theorem dX12_lot_310 : decode cX12_lot 310 = .ok (.iconst 1, 1) := by decide +kernel
theorem dX12_lot_311 : decode cX12_lot 311 = .ok (.iadd, 1) := by decide +kernel
theorem dX12_lot_312 : decode cX12_lot 312 = .ok (.putfield 283, 3) := by decide +kernel
theorem dX12_lot_315 : decode cX12_lot 315 = .ok (.aload_n 0, 1) := by decide +kernel
theorem dX12_lot_316 : decode cX12_lot 316 = .ok (.getfield 283, 3) := by decide +kernel
theorem dX12_lot_319 : decode cX12_lot 319 = .ok (.iconst 1, 1) := by decide +kernel
theorem dX12_lot_320 : decode cX12_lot 320 = .ok (.isub, 1) := by decide +kernel
theorem dX12_lot_321 : decode cX12_lot 321 = .ok (.ireturn, 1) := by decide +kernel
theorem dX12_bid_0 : decode cX12_bid 0 = .ok (.aload_n 0, 1) := by decide +kernel
theorem dX12_bid_1 : decode cX12_bid 1 = .ok (.iconst 0, 1) := by decide +kernel
theorem dX12_bid_2 : decode cX12_bid 2 = .ok (.putfield 1, 3) := by decide +kernel
theorem dX12_bid_5 : decode cX12_bid 5 = .ok (.aload_n 0, 1) := by decide +kernel
theorem dX12_bid_6 : decode cX12_bid 6 = .ok (.iload_n 1, 1) := by decide +kernel
theorem dX12_bid_7 : decode cX12_bid 7 = .ok (.iconst 0, 1) := by decide +kernel
theorem dX12_bid_8 : decode cX12_bid 8 = .ok (.iconst 3, 1) := by decide +kernel
theorem dX12_bid_9 : decode cX12_bid 9 = .ok (.invokestatic 129, 3) := by decide +kernel
theorem dX12_bid_12 : decode cX12_bid 12 = .ok (.iconst 1, 1) := by decide +kernel
theorem dX12_bid_13 : decode cX12_bid 13 = .ok (.invokevirtual 133, 3) := by decide +kernel
theorem dX12_bid_16 : decode cX12_bid 16 = .ok (.ifCond .eq 41, 3) := by decide +kernel
theorem dX12_bid_19 : decode cX12_bid 19 = .ok (.aload_n 0, 1) := by decide +kernel
theorem dX12_bid_20 : decode cX12_bid 20 = .ok (.iload_n 2, 1) := by decide +kernel
theorem dX12_bid_21 : decode cX12_bid 21 = .ok (.iconst 0, 1) := by decide +kernel
theorem dX12_bid_22 : decode cX12_bid 22 = .ok (.aload_n 0, 1) := by decide +kernel
theorem dX12_bid_23 : decode cX12_bid 23 = .ok (.getfield 283, 3) := by decide +kernel
theorem dX12_bid_26 : decode cX12_bid 26 = .ok (.iconst 1, 1) := by decide +kernel
theorem dX12_bid_27 : decode cX12_bid 27 = .ok (.isub, 1) := by decide +kernel
theorem dX12_bid_28 : decode cX12_bid 28 = .ok (.invokestatic 129, 3) := by decide +kernel
theorem dX12_bid_31 : decode cX12_bid 31 = .ok (.ifCond .eq 18, 3) := by decide +kernel
theorem dX12_bid_34 : decode cX12_bid 34 = .ok (.iload_n 3, 1) := by decide +kernel
theorem dX12_bid_35 : decode cX12_bid 35 = .ok (.iconst 1, 1) := by decide +kernel
theorem dX12_bid_36 : decode cX12_bid 36 = .ok (.ldc_w 286, 3) := by decide +kernel
theorem dX12_bid_39 : decode cX12_bid 39 = .ok (.invokestatic 129, 3) := by decide +kernel
theorem dX12_bid_42 : decode cX12_bid 42 = .ok (.ifCond .eq 7, 3) := by decide +kernel
theorem dX12_bid_45 : decode cX12_bid 45 = .ok (.iconst 1, 1) := by decide +kernel
theorem dX12_bid_46 : decode cX12_bid 46 = .ok (.goto 4, 3) := by decide +kernel
theorem dX12_bid_49 : decode cX12_bid 49 = .ok (.iconst 0, 1) := by decide +kernel
theorem dX12_bid_50 : decode cX12_bid 50 = .ok (.iconst 2, 1) := by decide +kernel
theorem dX12_bid_51 : decode cX12_bid 51 = .ok (.invokevirtual 133, 3) := by decide +kernel
theorem dX12_bid_54 : decode cX12_bid 54 = .ok (.ifCond .ne 5, 3) := by decide +kernel
theorem dX12_bid_57 : decode cX12_bid 57 = .ok (.iconst 0, 1) := by decide +kernel
theorem dX12_bid_58 : decode cX12_bid 58 = .ok (.ireturn, 1) := by decide +kernel
theorem dX12_bid_59 : decode cX12_bid 59 = .ok (.aload_n 0, 1) := by decide +kernel
theorem dX12_bid_60 : decode cX12_bid 60 = .ok (.getfield 111, 3) := by decide +kernel
theorem dX12_bid_63 : decode cX12_bid 63 = .ok (.iconst 4, 1) := by decide +kernel
theorem dX12_bid_64 : decode cX12_bid 64 = .ok (.iload_n 2, 1) := by decide +kernel
theorem dX12_bid_65 : decode cX12_bid 65 = .ok (.imul, 1) := by decide +kernel
theorem dX12_bid_66 : decode cX12_bid 66 = .ok (.iload_n 1, 1) := by decide +kernel
theorem dX12_bid_67 : decode cX12_bid 67 = .ok (.iadd, 1) := by decide +kernel
theorem dX12_bid_68 : decode cX12_bid 68 = .ok (.iaload, 1) := by decide +kernel
theorem dX12_bid_69 : decode cX12_bid 69 = .ok (.ifCond .le 5, 3) := by decide +kernel
theorem dX12_bid_72 : decode cX12_bid 72 = .ok (.iconst (-1), 1) := by decide +kernel
theorem dX12_bid_73 : decode cX12_bid 73 = .ok (.ireturn, 1) := by decide +kernel
theorem dX12_bid_74 : decode cX12_bid 74 = .ok (.aload_n 0, 1) := by decide +kernel
theorem dX12_bid_75 : decode cX12_bid 75 = .ok (.getfield 111, 3) := by decide +kernel
theorem dX12_bid_78 : decode cX12_bid 78 = .ok (.iconst 4, 1) := by decide +kernel
theorem dX12_bid_79 : decode cX12_bid 79 = .ok (.iload_n 2, 1) := by decide +kernel
theorem dX12_bid_80 : decode cX12_bid 80 = .ok (.imul, 1) := by decide +kernel
theorem dX12_bid_81 : decode cX12_bid 81 = .ok (.iload_n 1, 1) := by decide +kernel
theorem dX12_bid_82 : decode cX12_bid 82 = .ok (.iadd, 1) := by decide +kernel
theorem dX12_bid_83 : decode cX12_bid 83 = .ok (.iload_n 3, 1) := by decide +kernel
theorem dX12_bid_84 : decode cX12_bid 84 = .ok (.iastore, 1) := by decide +kernel
theorem dX12_bid_85 : decode cX12_bid 85 = .ok (.iconst 1, 1) := by decide +kernel
theorem dX12_bid_86 : decode cX12_bid 86 = .ok (.ireturn, 1) := by decide +kernel
theorem dX12_most_0 : decode cX12_most 0 = .ok (.aload_n 0, 1) := by decide +kernel
theorem dX12_most_1 : decode cX12_most 1 = .ok (.iconst 0, 1) := by decide +kernel
theorem dX12_most_2 : decode cX12_most 2 = .ok (.putfield 1, 3) := by decide +kernel
theorem dX12_most_5 : decode cX12_most 5 = .ok (.aload_n 0, 1) := by decide +kernel
theorem dX12_most_6 : decode cX12_most 6 = .ok (.iload_n 1, 1) := by decide +kernel
theorem dX12_most_7 : decode cX12_most 7 = .ok (.iconst 0, 1) := by decide +kernel
theorem dX12_most_8 : decode cX12_most 8 = .ok (.iconst 3, 1) := by decide +kernel
theorem dX12_most_9 : decode cX12_most 9 = .ok (.invokestatic 129, 3) := by decide +kernel
theorem dX12_most_12 : decode cX12_most 12 = .ok (.iconst 1, 1) := by decide +kernel
theorem dX12_most_13 : decode cX12_most 13 = .ok (.invokevirtual 133, 3) := by decide +kernel
theorem dX12_most_16 : decode cX12_most 16 = .ok (.ifCond .eq 18, 3) := by decide +kernel
theorem dX12_most_19 : decode cX12_most 19 = .ok (.aload_n 0, 1) := by decide +kernel
theorem dX12_most_20 : decode cX12_most 20 = .ok (.iload_n 2, 1) := by decide +kernel
theorem dX12_most_21 : decode cX12_most 21 = .ok (.iconst 0, 1) := by decide +kernel
theorem dX12_most_22 : decode cX12_most 22 = .ok (.bipush 6, 2) := by decide +kernel
theorem dX12_most_24 : decode cX12_most 24 = .ok (.invokestatic 129, 3) := by decide +kernel
theorem dX12_most_27 : decode cX12_most 27 = .ok (.iconst 2, 1) := by decide +kernel
theorem dX12_most_28 : decode cX12_most 28 = .ok (.invokevirtual 133, 3) := by decide +kernel
theorem dX12_most_31 : decode cX12_most 31 = .ok (.ifCond .ne 5, 3) := by decide +kernel
theorem dX12_most_34 : decode cX12_most 34 = .ok (.iconst 0, 1) := by decide +kernel
theorem dX12_most_35 : decode cX12_most 35 = .ok (.ireturn, 1) := by decide +kernel
theorem dX12_most_36 : decode cX12_most 36 = .ok (.aload_n 0, 1) := by decide +kernel
theorem dX12_most_37 : decode cX12_most 37 = .ok (.getfield 114, 3) := by decide +kernel
theorem dX12_most_40 : decode cX12_most 40 = .ok (.iload_n 1, 1) := by decide +kernel
theorem dX12_most_41 : decode cX12_most 41 = .ok (.iaload, 1) := by decide +kernel
theorem dX12_most_42 : decode cX12_most 42 = .ok (.istore_n 3, 1) := by decide +kernel
theorem dX12_most_43 : decode cX12_most 43 = .ok (.aload_n 0, 1) := by decide +kernel
theorem dX12_most_44 : decode cX12_most 44 = .ok (.getfield 114, 3) := by decide +kernel
theorem dX12_most_47 : decode cX12_most 47 = .ok (.iload_n 1, 1) := by decide +kernel
theorem dX12_most_48 : decode cX12_most 48 = .ok (.iload_n 2, 1) := by decide +kernel
theorem dX12_most_49 : decode cX12_most 49 = .ok (.iastore, 1) := by decide +kernel
theorem dX12_most_50 : decode cX12_most 50 = .ok (.iload_n 3, 1) := by decide +kernel
theorem dX12_most_51 : decode cX12_most 51 = .ok (.ireturn, 1) := by decide +kernel
theorem dX12_sell_0 : decode cX12_sell 0 = .ok (.aload_n 0, 1) := by decide +kernel
theorem dX12_sell_1 : decode cX12_sell 1 = .ok (.iconst 0, 1) := by decide +kernel
theorem dX12_sell_2 : decode cX12_sell 2 = .ok (.putfield 1, 3) := by decide +kernel
theorem dX12_sell_5 : decode cX12_sell 5 = .ok (.iconst 1, 1) := by decide +kernel
theorem dX12_sell_6 : decode cX12_sell 6 = .ok (.istore_n 1, 1) := by decide +kernel
theorem dX12_sell_7 : decode cX12_sell 7 = .ok (.iconst 0, 1) := by decide +kernel
theorem dX12_sell_8 : decode cX12_sell 8 = .ok (.istore_n 2, 1) := by decide +kernel
theorem dX12_sell_9 : decode cX12_sell 9 = .ok (.iload_n 2, 1) := by decide +kernel
theorem dX12_sell_10 : decode cX12_sell 10 = .ok (.aload_n 0, 1) := by decide +kernel
theorem dX12_sell_11 : decode cX12_sell 11 = .ok (.getfield 283, 3) := by decide +kernel
theorem dX12_sell_14 : decode cX12_sell 14 = .ok (.if_icmp .ge 13, 3) := by decide +kernel
theorem dX12_sell_17 : decode cX12_sell 17 = .ok (.iload_n 1, 1) := by decide +kernel
theorem dX12_sell_18 : decode cX12_sell 18 = .ok (.iconst 5, 1) := by decide +kernel
theorem dX12_sell_19 : decode cX12_sell 19 = .ok (.imul, 1) := by decide +kernel
theorem dX12_sell_20 : decode cX12_sell 20 = .ok (.istore_n 1, 1) := by decide +kernel
theorem dX12_sell_21 : decode cX12_sell 21 = .ok (.iinc 2 1, 3) := by decide +kernel
theorem dX12_sell_24 : decode cX12_sell 24 = .ok (.goto (-15), 3) := by decide +kernel
theorem dX12_sell_27 : decode cX12_sell 27 = .ok (.iconst (-1), 1) := by decide +kernel
theorem dX12_sell_28 : decode cX12_sell 28 = .ok (.istore_n 2, 1) := by decide +kernel
theorem dX12_sell_29 : decode cX12_sell 29 = .ok (.iconst 0, 1) := by decide +kernel
theorem dX12_sell_30 : decode cX12_sell 30 = .ok (.istore_n 3, 1) := by decide +kernel
theorem dX12_sell_31 : decode cX12_sell 31 = .ok (.iload_n 3, 1) := by decide +kernel
theorem dX12_sell_32 : decode cX12_sell 32 = .ok (.iload_n 1, 1) := by decide +kernel
theorem dX12_sell_33 : decode cX12_sell 33 = .ok (.if_icmp .ge 238, 3) := by decide +kernel
theorem dX12_sell_36 : decode cX12_sell 36 = .ok (.iload_n 3, 1) := by decide +kernel
theorem dX12_sell_37 : decode cX12_sell 37 = .ok (.istore 4, 2) := by decide +kernel
theorem dX12_sell_39 : decode cX12_sell 39 = .ok (.iconst 0, 1) := by decide +kernel
theorem dX12_sell_40 : decode cX12_sell 40 = .ok (.istore 5, 2) := by decide +kernel
theorem dX12_sell_42 : decode cX12_sell 42 = .ok (.iconst 1, 1) := by decide +kernel
theorem dX12_sell_43 : decode cX12_sell 43 = .ok (.istore 6, 2) := by decide +kernel
theorem dX12_sell_45 : decode cX12_sell 45 = .ok (.iconst 0, 1) := by decide +kernel
theorem dX12_sell_46 : decode cX12_sell 46 = .ok (.istore 7, 2) := by decide +kernel
theorem dX12_sell_48 : decode cX12_sell 48 = .ok (.iload 7, 2) := by decide +kernel
theorem dX12_sell_50 : decode cX12_sell 50 = .ok (.iconst 4, 1) := by decide +kernel
theorem dX12_sell_51 : decode cX12_sell 51 = .ok (.if_icmp .ge 17, 3) := by decide +kernel
theorem dX12_sell_54 : decode cX12_sell 54 = .ok (.aload_n 0, 1) := by decide +kernel
theorem dX12_sell_55 : decode cX12_sell 55 = .ok (.getfield 123, 3) := by decide +kernel
theorem dX12_sell_58 : decode cX12_sell 58 = .ok (.iload 7, 2) := by decide +kernel
theorem dX12_sell_60 : decode cX12_sell 60 = .ok (.iconst 0, 1) := by decide +kernel
theorem dX12_sell_61 : decode cX12_sell 61 = .ok (.iastore, 1) := by decide +kernel
theorem dX12_sell_62 : decode cX12_sell 62 = .ok (.iinc 7 1, 3) := by decide +kernel
theorem dX12_sell_65 : decode cX12_sell 65 = .ok (.goto (-17), 3) := by decide +kernel
theorem dX12_sell_68 : decode cX12_sell 68 = .ok (.aload_n 0, 1) := by decide +kernel
theorem dX12_sell_69 : decode cX12_sell 69 = .ok (.getfield 283, 3) := by decide +kernel
theorem dX12_sell_72 : decode cX12_sell 72 = .ok (.iconst 1, 1) := by decide +kernel
theorem dX12_sell_73 : decode cX12_sell 73 = .ok (.isub, 1) := by decide +kernel
theorem dX12_sell_74 : decode cX12_sell 74 = .ok (.istore 7, 2) := by decide +kernel
theorem dX12_sell_76 : decode cX12_sell 76 = .ok (.iload 7, 2) := by decide +kernel
theorem dX12_sell_78 : decode cX12_sell 78 = .ok (.ifCond .lt 94, 3) := by decide +kernel
theorem dX12_sell_81 : decode cX12_sell 81 = .ok (.iload 4, 2) := by decide +kernel
theorem dX12_sell_83 : decode cX12_sell 83 = .ok (.iconst 5, 1) := by decide +kernel
theorem dX12_sell_84 : decode cX12_sell 84 = .ok (.irem, 1) := by decide +kernel
theorem dX12_sell_85 : decode cX12_sell 85 = .ok (.istore 8, 2) := by decide +kernel
theorem dX12_sell_87 : decode cX12_sell 87 = .ok (.iload 4, 2) := by decide +kernel
theorem dX12_sell_89 : decode cX12_sell 89 = .ok (.iconst 5, 1) := by decide +kernel
theorem dX12_sell_90 : decode cX12_sell 90 = .ok (.idiv, 1) := by decide +kernel
theorem dX12_sell_91 : decode cX12_sell 91 = .ok (.istore 4, 2) := by decide +kernel
theorem dX12_sell_93 : decode cX12_sell 93 = .ok (.aload_n 0, 1) := by decide +kernel
theorem dX12_sell_94 : decode cX12_sell 94 = .ok (.getfield 117, 3) := by decide +kernel
theorem dX12_sell_97 : decode cX12_sell 97 = .ok (.iload 7, 2) := by decide +kernel
theorem dX12_sell_99 : decode cX12_sell 99 = .ok (.iload 8, 2) := by decide +kernel
theorem dX12_sell_101 : decode cX12_sell 101 = .ok (.iastore, 1) := by decide +kernel
theorem dX12_sell_102 : decode cX12_sell 102 = .ok (.iload 8, 2) := by decide +kernel
theorem dX12_sell_104 : decode cX12_sell 104 = .ok (.iconst 4, 1) := by decide +kernel
theorem dX12_sell_105 : decode cX12_sell 105 = .ok (.if_icmp .ne 6, 3) := by decide +kernel
theorem dX12_sell_108 : decode cX12_sell 108 = .ok (.goto 58, 3) := by decide +kernel
theorem dX12_sell_111 : decode cX12_sell 111 = .ok (.iload 6, 2) := by decide +kernel
theorem dX12_sell_113 : decode cX12_sell 113 = .ok (.ifCond .eq 22, 3) := by decide +kernel
theorem dX12_sell_116 : decode cX12_sell 116 = .ok (.aload_n 0, 1) := by decide +kernel
theorem dX12_sell_117 : decode cX12_sell 117 = .ok (.getfield 111, 3) := by decide +kernel
theorem dX12_sell_120 : decode cX12_sell 120 = .ok (.iconst 4, 1) := by decide +kernel
theorem dX12_sell_121 : decode cX12_sell 121 = .ok (.iload 7, 2) := by decide +kernel
theorem dX12_sell_123 : decode cX12_sell 123 = .ok (.imul, 1) := by decide +kernel
theorem dX12_sell_124 : decode cX12_sell 124 = .ok (.iload 8, 2) := by decide +kernel
theorem dX12_sell_126 : decode cX12_sell 126 = .ok (.iadd, 1) := by decide +kernel
theorem dX12_sell_127 : decode cX12_sell 127 = .ok (.iaload, 1) := by decide +kernel
theorem dX12_sell_128 : decode cX12_sell 128 = .ok (.ifCond .le 7, 3) := by decide +kernel
theorem dX12_sell_131 : decode cX12_sell 131 = .ok (.iconst 1, 1) := by decide +kernel
theorem dX12_sell_132 : decode cX12_sell 132 = .ok (.goto 4, 3) := by decide +kernel
theorem dX12_sell_135 : decode cX12_sell 135 = .ok (.iconst 0, 1) := by decide +kernel
theorem dX12_sell_136 : decode cX12_sell 136 = .ok (.istore 6, 2) := by decide +kernel
theorem dX12_sell_138 : decode cX12_sell 138 = .ok (.iload 5, 2) := by decide +kernel
theorem dX12_sell_140 : decode cX12_sell 140 = .ok (.aload_n 0, 1) := by decide +kernel
theorem dX12_sell_141 : decode cX12_sell 141 = .ok (.getfield 111, 3) := by decide +kernel
theorem dX12_sell_144 : decode cX12_sell 144 = .ok (.iconst 4, 1) := by decide +kernel
theorem dX12_sell_145 : decode cX12_sell 145 = .ok (.iload 7, 2) := by decide +kernel
theorem dX12_sell_147 : decode cX12_sell 147 = .ok (.imul, 1) := by decide +kernel
theorem dX12_sell_148 : decode cX12_sell 148 = .ok (.iload 8, 2) := by decide +kernel
theorem dX12_sell_150 : decode cX12_sell 150 = .ok (.iadd, 1) := by decide +kernel
theorem dX12_sell_151 : decode cX12_sell 151 = .ok (.iaload, 1) := by decide +kernel
theorem dX12_sell_152 : decode cX12_sell 152 = .ok (.iadd, 1) := by decide +kernel
theorem dX12_sell_153 : decode cX12_sell 153 = .ok (.istore 5, 2) := by decide +kernel
theorem dX12_sell_155 : decode cX12_sell 155 = .ok (.aload_n 0, 1) := by decide +kernel
theorem dX12_sell_156 : decode cX12_sell 156 = .ok (.getfield 123, 3) := by decide +kernel
theorem dX12_sell_159 : decode cX12_sell 159 = .ok (.iload 8, 2) := by decide +kernel
theorem dX12_sell_161 : decode cX12_sell 161 = .ok (.dup2, 1) := by decide +kernel
theorem dX12_sell_162 : decode cX12_sell 162 = .ok (.iaload, 1) := by decide +kernel
theorem dX12_sell_163 : decode cX12_sell 163 = .ok (.iconst 1, 1) := by decide +kernel
theorem dX12_sell_164 : decode cX12_sell 164 = .ok (.iadd, 1) := by decide +kernel
theorem dX12_sell_165 : decode cX12_sell 165 = .ok (.iastore, 1) := by decide +kernel
theorem dX12_sell_166 : decode cX12_sell 166 = .ok (.iinc 7 (-1), 3) := by decide +kernel
theorem dX12_sell_169 : decode cX12_sell 169 = .ok (.goto (-93), 3) := by decide +kernel
theorem dX12_sell_172 : decode cX12_sell 172 = .ok (.iconst 0, 1) := by decide +kernel
theorem dX12_sell_173 : decode cX12_sell 173 = .ok (.istore 7, 2) := by decide +kernel
theorem dX12_sell_175 : decode cX12_sell 175 = .ok (.iload 7, 2) := by decide +kernel
theorem dX12_sell_177 : decode cX12_sell 177 = .ok (.iconst 4, 1) := by decide +kernel
theorem dX12_sell_178 : decode cX12_sell 178 = .ok (.if_icmp .ge 38, 3) := by decide +kernel
theorem dX12_sell_181 : decode cX12_sell 181 = .ok (.iload 6, 2) := by decide +kernel
theorem dX12_sell_183 : decode cX12_sell 183 = .ok (.ifCond .eq 24, 3) := by decide +kernel
theorem dX12_sell_186 : decode cX12_sell 186 = .ok (.aload_n 0, 1) := by decide +kernel
theorem dX12_sell_187 : decode cX12_sell 187 = .ok (.getfield 123, 3) := by decide +kernel
theorem dX12_sell_190 : decode cX12_sell 190 = .ok (.iload 7, 2) := by decide +kernel
theorem dX12_sell_192 : decode cX12_sell 192 = .ok (.iaload, 1) := by decide +kernel
theorem dX12_sell_193 : decode cX12_sell 193 = .ok (.aload_n 0, 1) := by decide +kernel
theorem dX12_sell_194 : decode cX12_sell 194 = .ok (.getfield 114, 3) := by decide +kernel
theorem dX12_sell_197 : decode cX12_sell 197 = .ok (.iload 7, 2) := by decide +kernel
theorem dX12_sell_199 : decode cX12_sell 199 = .ok (.iaload, 1) := by decide +kernel
theorem dX12_sell_200 : decode cX12_sell 200 = .ok (.if_icmp .gt 7, 3) := by decide +kernel
theorem dX12_sell_203 : decode cX12_sell 203 = .ok (.iconst 1, 1) := by decide +kernel
theorem dX12_sell_204 : decode cX12_sell 204 = .ok (.goto 4, 3) := by decide +kernel
theorem dX12_sell_207 : decode cX12_sell 207 = .ok (.iconst 0, 1) := by decide +kernel
theorem dX12_sell_208 : decode cX12_sell 208 = .ok (.istore 6, 2) := by decide +kernel
theorem dX12_sell_210 : decode cX12_sell 210 = .ok (.iinc 7 1, 3) := by decide +kernel
theorem dX12_sell_213 : decode cX12_sell 213 = .ok (.goto (-38), 3) := by decide +kernel
theorem dX12_sell_216 : decode cX12_sell 216 = .ok (.iload 6, 2) := by decide +kernel
theorem dX12_sell_218 : decode cX12_sell 218 = .ok (.ifCond .eq 47, 3) := by decide +kernel
theorem dX12_sell_221 : decode cX12_sell 221 = .ok (.iload 5, 2) := by decide +kernel
theorem dX12_sell_223 : decode cX12_sell 223 = .ok (.iload_n 2, 1) := by decide +kernel
theorem dX12_sell_224 : decode cX12_sell 224 = .ok (.if_icmp .gt 6, 3) := by decide +kernel
theorem dX12_sell_227 : decode cX12_sell 227 = .ok (.goto 38, 3) := by decide +kernel
theorem dX12_sell_230 : decode cX12_sell 230 = .ok (.iload 5, 2) := by decide +kernel
theorem dX12_sell_232 : decode cX12_sell 232 = .ok (.istore_n 2, 1) := by decide +kernel
theorem dX12_sell_233 : decode cX12_sell 233 = .ok (.iconst 0, 1) := by decide +kernel
theorem dX12_sell_234 : decode cX12_sell 234 = .ok (.istore 7, 2) := by decide +kernel
theorem dX12_sell_236 : decode cX12_sell 236 = .ok (.iload 7, 2) := by decide +kernel
theorem dX12_sell_238 : decode cX12_sell 238 = .ok (.aload_n 0, 1) := by decide +kernel
theorem dX12_sell_239 : decode cX12_sell 239 = .ok (.getfield 283, 3) := by decide +kernel
theorem dX12_sell_242 : decode cX12_sell 242 = .ok (.if_icmp .ge 23, 3) := by decide +kernel
theorem dX12_sell_245 : decode cX12_sell 245 = .ok (.aload_n 0, 1) := by decide +kernel
theorem dX12_sell_246 : decode cX12_sell 246 = .ok (.getfield 120, 3) := by decide +kernel
theorem dX12_sell_249 : decode cX12_sell 249 = .ok (.iload 7, 2) := by decide +kernel
theorem dX12_sell_251 : decode cX12_sell 251 = .ok (.aload_n 0, 1) := by decide +kernel
theorem dX12_sell_252 : decode cX12_sell 252 = .ok (.getfield 117, 3) := by decide +kernel
theorem dX12_sell_255 : decode cX12_sell 255 = .ok (.iload 7, 2) := by decide +kernel
theorem dX12_sell_257 : decode cX12_sell 257 = .ok (.iaload, 1) := by decide +kernel
theorem dX12_sell_258 : decode cX12_sell 258 = .ok (.iastore, 1) := by decide +kernel
theorem dX12_sell_259 : decode cX12_sell 259 = .ok (.iinc 7 1, 3) := by decide +kernel
theorem dX12_sell_262 : decode cX12_sell 262 = .ok (.goto (-26), 3) := by decide +kernel
theorem dX12_sell_265 : decode cX12_sell 265 = .ok (.iinc 3 1, 3) := by decide +kernel
theorem dX12_sell_268 : decode cX12_sell 268 = .ok (.goto (-237), 3) := by decide +kernel
theorem dX12_sell_271 : decode cX12_sell 271 = .ok (.iconst 0, 1) := by decide +kernel
theorem dX12_sell_272 : decode cX12_sell 272 = .ok (.istore_n 3, 1) := by decide +kernel
theorem dX12_sell_273 : decode cX12_sell 273 = .ok (.iload_n 3, 1) := by decide +kernel
theorem dX12_sell_274 : decode cX12_sell 274 = .ok (.aload_n 0, 1) := by decide +kernel
theorem dX12_sell_275 : decode cX12_sell 275 = .ok (.getfield 239, 3) := by decide +kernel
theorem dX12_sell_278 : decode cX12_sell 278 = .ok (.if_icmp .ge 61, 3) := by decide +kernel
theorem dX12_sell_281 : decode cX12_sell 281 = .ok (.aload_n 0, 1) := by decide +kernel
theorem dX12_sell_282 : decode cX12_sell 282 = .ok (.getfield 86, 3) := by decide +kernel
theorem dX12_sell_285 : decode cX12_sell 285 = .ok (.iload_n 3, 1) := by decide +kernel
theorem dX12_sell_286 : decode cX12_sell 286 = .ok (.iaload, 1) := by decide +kernel
theorem dX12_sell_287 : decode cX12_sell 287 = .ok (.iconst (-1), 1) := by decide +kernel
theorem dX12_sell_288 : decode cX12_sell 288 = .ok (.if_icmp .ne 6, 3) := by decide +kernel
theorem dX12_sell_291 : decode cX12_sell 291 = .ok (.goto 42, 3) := by decide +kernel
theorem dX12_sell_294 : decode cX12_sell 294 = .ok (.aload_n 0, 1) := by decide +kernel
theorem dX12_sell_295 : decode cX12_sell 295 = .ok (.getfield 120, 3) := by decide +kernel
theorem dX12_sell_298 : decode cX12_sell 298 = .ok (.aload_n 0, 1) := by decide +kernel
theorem dX12_sell_299 : decode cX12_sell 299 = .ok (.getfield 86, 3) := by decide +kernel
theorem dX12_sell_302 : decode cX12_sell 302 = .ok (.iload_n 3, 1) := by decide +kernel
theorem dX12_sell_303 : decode cX12_sell 303 = .ok (.iaload, 1) := by decide +kernel
theorem dX12_sell_304 : decode cX12_sell 304 = .ok (.iaload, 1) := by decide +kernel
theorem dX12_sell_305 : decode cX12_sell 305 = .ok (.iconst 4, 1) := by decide +kernel
theorem dX12_sell_306 : decode cX12_sell 306 = .ok (.if_icmp .ge 20, 3) := by decide +kernel
theorem dX12_sell_309 : decode cX12_sell 309 = .ok (.aload_n 0, 1) := by decide +kernel
theorem dX12_sell_310 : decode cX12_sell 310 = .ok (.getfield 89, 3) := by decide +kernel
theorem dX12_sell_313 : decode cX12_sell 313 = .ok (.iload_n 3, 1) := by decide +kernel
theorem dX12_sell_314 : decode cX12_sell 314 = .ok (.aload_n 0, 1) := by decide +kernel
theorem dX12_sell_315 : decode cX12_sell 315 = .ok (.getfield 120, 3) := by decide +kernel
theorem dX12_sell_318 : decode cX12_sell 318 = .ok (.aload_n 0, 1) := by decide +kernel
theorem dX12_sell_319 : decode cX12_sell 319 = .ok (.getfield 86, 3) := by decide +kernel
theorem dX12_sell_322 : decode cX12_sell 322 = .ok (.iload_n 3, 1) := by decide +kernel
theorem dX12_sell_323 : decode cX12_sell 323 = .ok (.iaload, 1) := by decide +kernel
theorem dX12_sell_324 : decode cX12_sell 324 = .ok (.iaload, 1) := by decide +kernel
theorem dX12_sell_325 : decode cX12_sell 325 = .ok (.iastore, 1) := by decide +kernel
theorem dX12_sell_326 : decode cX12_sell 326 = .ok (.aload_n 0, 1) := by decide +kernel
theorem dX12_sell_327 : decode cX12_sell 327 = .ok (.getfield 86, 3) := by decide +kernel
theorem dX12_sell_330 : decode cX12_sell 330 = .ok (.iload_n 3, 1) := by decide +kernel
theorem dX12_sell_331 : decode cX12_sell 331 = .ok (.iconst (-1), 1) := by decide +kernel
theorem dX12_sell_332 : decode cX12_sell 332 = .ok (.iastore, 1) := by decide +kernel
theorem dX12_sell_333 : decode cX12_sell 333 = .ok (.iinc 3 1, 3) := by decide +kernel
theorem dX12_sell_336 : decode cX12_sell 336 = .ok (.goto (-63), 3) := by decide +kernel
theorem dX12_sell_339 : decode cX12_sell 339 = .ok (.aload_n 0, 1) := by decide +kernel
theorem dX12_sell_340 : decode cX12_sell 340 = .ok (.iconst 0, 1) := by decide +kernel
theorem dX12_sell_341 : decode cX12_sell 341 = .ok (.putfield 283, 3) := by decide +kernel
theorem dX12_sell_344 : decode cX12_sell 344 = .ok (.aload_n 0, 1) := by decide +kernel
theorem dX12_sell_345 : decode cX12_sell 345 = .ok (.dup, 1) := by decide +kernel
theorem dX12_sell_346 : decode cX12_sell 346 = .ok (.getfield 287, 3) := by decide +kernel
theorem dX12_sell_349 : decode cX12_sell 349 = .ok (.iload_n 2, 1) := by decide +kernel
theorem dX12_sell_350 : decode cX12_sell 350 = .ok (.iadd, 1) := by decide +kernel
theorem dX12_sell_351 : decode cX12_sell 351 = .ok (.putfield 287, 3) := by decide +kernel
theorem dX12_sell_354 : decode cX12_sell 354 = .ok (.iload_n 2, 1) := by decide +kernel
theorem dX12_sell_355 : decode cX12_sell 355 = .ok (.ireturn, 1) := by decide +kernel
theorem dX12_count_0 : decode cX12_count 0 = .ok (.aload_n 0, 1) := by decide +kernel
theorem dX12_count_1 : decode cX12_count 1 = .ok (.iconst 0, 1) := by decide +kernel
theorem dX12_count_2 : decode cX12_count 2 = .ok (.putfield 1, 3) := by decide +kernel
theorem dX12_count_5 : decode cX12_count 5 = .ok (.iload_n 1, 1) := by decide +kernel
theorem dX12_count_6 : decode cX12_count 6 = .ok (.tableswitch 119 0 7 #[46, 51, 56, 61, 66, 71, 76, 81], 46) := by decide +kernel
theorem dX12_count_52 : decode cX12_count 52 = .ok (.aload_n 0, 1) := by decide +kernel
theorem dX12_count_53 : decode cX12_count 53 = .ok (.getfield 126, 3) := by decide +kernel
theorem dX12_count_56 : decode cX12_count 56 = .ok (.ireturn, 1) := by decide +kernel
theorem dX12_count_57 : decode cX12_count 57 = .ok (.aload_n 0, 1) := by decide +kernel
theorem dX12_count_58 : decode cX12_count 58 = .ok (.getfield 174, 3) := by decide +kernel
theorem dX12_count_61 : decode cX12_count 61 = .ok (.ireturn, 1) := by decide +kernel
theorem dX12_count_62 : decode cX12_count 62 = .ok (.aload_n 0, 1) := by decide +kernel
theorem dX12_count_63 : decode cX12_count 63 = .ok (.getfield 239, 3) := by decide +kernel
theorem dX12_count_66 : decode cX12_count 66 = .ok (.ireturn, 1) := by decide +kernel
theorem dX12_count_67 : decode cX12_count 67 = .ok (.aload_n 0, 1) := by decide +kernel
theorem dX12_count_68 : decode cX12_count 68 = .ok (.getfield 283, 3) := by decide +kernel
theorem dX12_count_71 : decode cX12_count 71 = .ok (.ireturn, 1) := by decide +kernel
theorem dX12_count_72 : decode cX12_count 72 = .ok (.aload_n 0, 1) := by decide +kernel
theorem dX12_count_73 : decode cX12_count 73 = .ok (.getfield 287, 3) := by decide +kernel
theorem dX12_count_76 : decode cX12_count 76 = .ok (.ireturn, 1) := by decide +kernel
theorem dX12_count_77 : decode cX12_count 77 = .ok (.aload_n 0, 1) := by decide +kernel
theorem dX12_count_78 : decode cX12_count 78 = .ok (.getfield 183, 3) := by decide +kernel
theorem dX12_count_81 : decode cX12_count 81 = .ok (.ireturn, 1) := by decide +kernel
theorem dX12_count_82 : decode cX12_count 82 = .ok (.aload_n 0, 1) := by decide +kernel
theorem dX12_count_83 : decode cX12_count 83 = .ok (.getfield 143, 3) := by decide +kernel
theorem dX12_count_86 : decode cX12_count 86 = .ok (.ireturn, 1) := by decide +kernel
theorem dX12_count_87 : decode cX12_count 87 = .ok (.iconst 0, 1) := by decide +kernel
theorem dX12_count_88 : decode cX12_count 88 = .ok (.istore_n 2, 1) := by decide +kernel
theorem dX12_count_89 : decode cX12_count 89 = .ok (.iconst 0, 1) := by decide +kernel
theorem dX12_count_90 : decode cX12_count 90 = .ok (.istore_n 3, 1) := by decide +kernel
theorem dX12_count_91 : decode cX12_count 91 = .ok (.iload_n 3, 1) := by decide +kernel
theorem dX12_count_92 : decode cX12_count 92 = .ok (.aload_n 0, 1) := by decide +kernel
theorem dX12_count_93 : decode cX12_count 93 = .ok (.getfield 239, 3) := by decide +kernel
theorem dX12_count_96 : decode cX12_count 96 = .ok (.if_icmp .ge 27, 3) := by decide +kernel
theorem dX12_count_99 : decode cX12_count 99 = .ok (.iload_n 2, 1) := by decide +kernel
theorem dX12_count_100 : decode cX12_count 100 = .ok (.aload_n 0, 1) := by decide +kernel
theorem dX12_count_101 : decode cX12_count 101 = .ok (.getfield 89, 3) := by decide +kernel
theorem dX12_count_104 : decode cX12_count 104 = .ok (.iload_n 3, 1) := by decide +kernel
theorem dX12_count_105 : decode cX12_count 105 = .ok (.iaload, 1) := by decide +kernel
theorem dX12_count_106 : decode cX12_count 106 = .ok (.iconst (-1), 1) := by decide +kernel
theorem dX12_count_107 : decode cX12_count 107 = .ok (.if_icmp .eq 7, 3) := by decide +kernel
theorem dX12_count_110 : decode cX12_count 110 = .ok (.iconst 1, 1) := by decide +kernel
theorem dX12_count_111 : decode cX12_count 111 = .ok (.goto 4, 3) := by decide +kernel
theorem dX12_count_114 : decode cX12_count 114 = .ok (.iconst 0, 1) := by decide +kernel
theorem dX12_count_115 : decode cX12_count 115 = .ok (.iadd, 1) := by decide +kernel
theorem dX12_count_116 : decode cX12_count 116 = .ok (.istore_n 2, 1) := by decide +kernel
theorem dX12_count_117 : decode cX12_count 117 = .ok (.iinc 3 1, 3) := by decide +kernel
theorem dX12_count_120 : decode cX12_count 120 = .ok (.goto (-29), 3) := by decide +kernel
theorem dX12_count_123 : decode cX12_count 123 = .ok (.iload_n 2, 1) := by decide +kernel
theorem dX12_count_124 : decode cX12_count 124 = .ok (.ireturn, 1) := by decide +kernel
theorem dX12_count_125 : decode cX12_count 125 = .ok (.iconst (-1), 1) := by decide +kernel
theorem dX12_count_126 : decode cX12_count 126 = .ok (.ireturn, 1) := by decide +kernel
def F_X12_isStone (a0 : Nat) (a1 : Int32) (h0 : PM) : Option (Int32 × PM) := gI h0 a0 13 32 fun x1 => cl (F_X12_within a1 0 (x1 - 1) h0) fun r2 h3 => tst h3 a0 13 (cl (F_X12_may a0 r2 1 h3) fun r5 h6 => rz r5 h6)
set_option maxRecDepth 100000 in
set_option maxHeartbeats 4000000 in
theorem S_X12_isStone {a0 : Nat} {a1 : Int32} {h0 : PM} (r : Int32) (h' : PM) (hF : F_X12_isStone a0 a1 h0 = some (r, h')) : CN yX12_isStone cX12_isStone 2 (some .boolean) 0 0 1 [.ref a0, .int a1] h0 (some (.int r)) h' := by
  obtain ⟨X, eX⟩ : ∃ X, X = (r, h') := ⟨_, rfl⟩
  rw [← eX] at hF
  have e1 : r = X.1 := by rw [eX]
  have e2 : h' = X.2 := by rw [eX]
  rw [e1, e2]
  clear eX e1 e2
  unfold F_X12_isStone at hF
  refine CN_of (by decide) (fun ρ => Nat.le_of_ble_eq_true rfl) rfl ?_
  intro p l e s m args below meth c D cy base ρ hT C V hr hnm
  refine r_aload_n C dX12_isStone_0 rfl 0 rfl ?_
  refine r_iload_n C dX12_isStone_1 rfl 1 rfl ?_
  refine r_iconst (v := 0) C dX12_isStone_2 (by decide) ?_
  refine r_aload_n C dX12_isStone_3 rfl 0 rfl ?_
  refine k_gI C dX12_isStone_4 fd_X12_239 (by decide) hF (fun x1 hF => ?_)
  refine r_iconst (v := 1) C dX12_isStone_7 (by decide) ?_
  refine r_isub C dX12_isStone_8 ?_
  obtain ⟨r2, h3, hc4, hF⟩ := cl_some hF
  refine r_callS (As := [.int a1, .int 0, .int (x1 - 1)]) C dX12_isStone_9 V hT cal_X12_within ml_X12_129 sm_X12_within (by decide) rfl rfl (Nat.le_of_ble_eq_true rfl) (by decide) (by decide) (S_X12_within _ _ hc4) ?_
  refine r_iconst (v := 1) C dX12_isStone_12 (by decide) ?_
  obtain ⟨ht, hF⟩ := tst_some hF
  obtain ⟨r5, h6, hc7, hF⟩ := cl_some hF
  refine r_callV (As := [.int r2, .int 1]) C dX12_isStone_13 V hT cal_X12_may cls_13 ml_X12_133 im_X12_may se_X12_may ht (by decide) rfl rfl (Nat.le_of_ble_eq_true rfl) (by decide) (by decide) (S_X12_may _ _ hc7) ?_
  exact k_zret C dX12_isStone_16 hr (by decide) (by decide) hF
def F_X12_facet (a0 : Nat) (a1 : Int32) (a2 : Int32) (a3 : Int32) (h0 : PM) : Option (Int32 × PM) := pI h0 a0 13 0 0 fun h1 => tst h1 a0 13 (cl (F_X12_isStone a0 a1 h1) fun r2 h3 => jn (fun  (h5 : PM) => some (0, h5)) fun k46 => if r2 = 0 then (k46 h3) else (cl (F_X12_within a2 0 95 h3) fun r6 h7 => jn (fun (s9 : Int32) (s10 : Nat) (h11 : PM) => tst h11 s10 13 (cl (F_X12_may s10 s9 2 h11) fun r12 h13 => if ¬ r12 = 0 then (gR h13 a0 13 42 fun x15 => aZ h13 x15 a1 fun x16 => if x16 = 0 then (gR h13 a0 13 36 fun x17 => aI h13 x17 a1 fun x18 => if ¬ x18 = 8 then (gR h13 a0 13 37 fun x19 => gR h13 a0 13 36 fun x20 => aI h13 x20 a1 fun x21 => sI h13 x19 ((8 * a1) + x21) a2 fun h22 => gR h22 a0 13 38 fun x23 => gR h22 a0 13 36 fun x24 => aI h22 x24 a1 fun x25 => sI h22 x23 ((8 * a1) + x25) a3 fun h26 => gR h26 a0 13 36 fun x27 => aI h26 x27 a1 fun x28 => sI h26 x27 a1 (x28 + 1) fun h29 => gR h29 a0 13 36 fun x30 => aI h29 x30 a1 fun x31 => some (x31, h29)) else (some ((-2), h13))) else (some ((-1), h13))) else (k46 h13))) fun k39 => jn (fun (s32 : Nat) (h33 : PM) => k39 0 s32 h33) fun k38 => if r6 = 0 then (k38 a0 h7) else (cl (F_X12_within a3 0 90 h7) fun r34 h35 => if r34 = 0 then (k38 a0 h35) else (k39 1 a0 h35))))
set_option maxRecDepth 100000 in
set_option maxHeartbeats 4000000 in
theorem S_X12_facet {a0 : Nat} {a1 : Int32} {a2 : Int32} {a3 : Int32} {h0 : PM} (r : Int32) (h' : PM) (hF : F_X12_facet a0 a1 a2 a3 h0 = some (r, h')) : CN yX12_facet cX12_facet 4 (some .int) 0 0 2 [.ref a0, .int a1, .int a2, .int a3] h0 (some (.int r)) h' := by
  obtain ⟨X, eX⟩ : ∃ X, X = (r, h') := ⟨_, rfl⟩
  rw [← eX] at hF
  have e1 : r = X.1 := by rw [eX]
  have e2 : h' = X.2 := by rw [eX]
  rw [e1, e2]
  clear eX e1 e2
  unfold F_X12_facet at hF
  refine CN_of (by decide) (fun ρ => Nat.le_of_ble_eq_true rfl) rfl ?_
  intro p l e s m args below meth c D cy base ρ hT C V hr hnm
  refine r_aload_n C dX12_facet_0 rfl 0 rfl ?_
  refine r_iconst (v := 0) C dX12_facet_1 (by decide) ?_
  refine k_pI C dX12_facet_2 fd_X12_1 (fun z => by cases z) (by decide) hF (fun h1 hF => ?_)
  refine r_aload_n C dX12_facet_5 rfl 0 rfl ?_
  refine r_iload_n C dX12_facet_6 rfl 1 rfl ?_
  obtain ⟨ht, hF⟩ := tst_some hF
  obtain ⟨r2, h3, hc4, hF⟩ := cl_some hF
  refine r_callV (As := [.int a1]) C dX12_facet_7 V hT cal_X12_isStone cls_13 ml_X12_242 im_X12_isStone se_X12_isStone ht (by decide) rfl rfl (Nat.le_of_ble_eq_true rfl) (by decide) (by decide) (S_X12_isStone _ _ hc4) ?_
  obtain ⟨k46, ek46, hF⟩ := jn_some hF
  have Jk46 : ∀  (h5 : PM), k46 h5 = some X → WP p l e (rmN 0 0 2) s m args below meth c D cy base ρ h0 0 0 4 (MQ below (QR D cy base ρ h0 (some (.int X.1)) X.2) args s 0 0 (fun q => base ≤ q)) 46 [] [] h5 := by
    intro h5 hF
    rw [ek46] at hF
    refine r_iconst (v := 0) C dX12_facet_46 (by decide) ?_
    exact k_iret C dX12_facet_47 hr (by decide) (by decide) hF
  refine r_if_eq (tgt := 46) C dX12_facet_10 (by decide) hF (fun hF => ?_) (fun hF => ?_)
  · exact r_sub [] rfl (Jk46  _ hF)
  · refine r_aload_n C dX12_facet_13 rfl 0 rfl ?_
    refine r_iload_n C dX12_facet_14 rfl 2 rfl ?_
    refine r_iconst (v := 0) C dX12_facet_15 (by decide) ?_
    refine r_bipush (v := 95) C dX12_facet_16 (by decide) ?_
    obtain ⟨r6, h7, hc8, hF⟩ := cl_some hF
    refine r_callS (As := [.int a2, .int 0, .int 95]) C dX12_facet_18 V hT cal_X12_within ml_X12_129 sm_X12_within (by decide) rfl rfl (Nat.le_of_ble_eq_true rfl) (by decide) (by decide) (S_X12_within _ _ hc8) ?_
    obtain ⟨k39, ek39, hF⟩ := jn_some hF
    have Jk39 : ∀ (s9 : Int32) (s10 : Nat) (h11 : PM), k39 s9 s10 h11 = some X → WP p l e (rmN 0 0 2) s m args below meth c D cy base ρ h0 0 0 4 (MQ below (QR D cy base ρ h0 (some (.int X.1)) X.2) args s 0 0 (fun q => base ≤ q)) 39 [(0, .ref a0), (1, .int a1), (2, .int a2), (3, .int a3)] [.int s9, .ref s10] h11 := by
      intro s9 s10 h11 hF
      rw [ek39] at hF
      refine r_iconst (v := 2) C dX12_facet_39 (by decide) ?_
      obtain ⟨ht, hF⟩ := tst_some hF
      obtain ⟨r12, h13, hc14, hF⟩ := cl_some hF
      refine r_callV (As := [.int s9, .int 2]) C dX12_facet_40 V hT cal_X12_may cls_13 ml_X12_133 im_X12_may se_X12_may ht (by decide) rfl rfl (Nat.le_of_ble_eq_true rfl) (by decide) (by decide) (S_X12_may _ _ hc14) ?_
      refine r_if_ne (tgt := 48) C dX12_facet_43 (by decide) hF (fun hF => ?_) (fun hF => ?_)
      · refine r_aload_n C dX12_facet_48 rfl 0 rfl ?_
        refine k_gR C dX12_facet_49 fd_X12_92 (by decide) hF (fun x15 hF => ?_)
        refine r_iload_n C dX12_facet_52 rfl 1 rfl ?_
        refine k_aZ C dX12_facet_53 hF (fun x16 hF => ?_)
        refine r_if_eq (tgt := 59) C dX12_facet_54 (by decide) hF (fun hF => ?_) (fun hF => ?_)
        · refine r_aload_n C dX12_facet_59 rfl 0 rfl ?_
          refine k_gR C dX12_facet_60 fd_X12_74 (by decide) hF (fun x17 hF => ?_)
          refine r_iload_n C dX12_facet_63 rfl 1 rfl ?_
          refine k_aI C dX12_facet_64 hF (fun x18 hF => ?_)
          refine r_bipush (v := 8) C dX12_facet_65 (by decide) ?_
          refine r_icmp_ne (tgt := 73) C dX12_facet_67 (by decide) hF (fun hF => ?_) (fun hF => ?_)
          · refine r_aload_n C dX12_facet_73 rfl 0 rfl ?_
            refine k_gR C dX12_facet_74 fd_X12_77 (by decide) hF (fun x19 hF => ?_)
            refine r_bipush (v := 8) C dX12_facet_77 (by decide) ?_
            refine r_iload_n C dX12_facet_79 rfl 1 rfl ?_
            refine r_imul C dX12_facet_80 ?_
            refine r_aload_n C dX12_facet_81 rfl 0 rfl ?_
            refine k_gR C dX12_facet_82 fd_X12_74 (by decide) hF (fun x20 hF => ?_)
            refine r_iload_n C dX12_facet_85 rfl 1 rfl ?_
            refine k_aI C dX12_facet_86 hF (fun x21 hF => ?_)
            refine r_iadd C dX12_facet_87 ?_
            refine r_iload_n C dX12_facet_88 rfl 2 rfl ?_
            refine k_sI C dX12_facet_89 hF (fun h22 hF => ?_)
            refine r_aload_n C dX12_facet_90 rfl 0 rfl ?_
            refine k_gR C dX12_facet_91 fd_X12_80 (by decide) hF (fun x23 hF => ?_)
            refine r_bipush (v := 8) C dX12_facet_94 (by decide) ?_
            refine r_iload_n C dX12_facet_96 rfl 1 rfl ?_
            refine r_imul C dX12_facet_97 ?_
            refine r_aload_n C dX12_facet_98 rfl 0 rfl ?_
            refine k_gR C dX12_facet_99 fd_X12_74 (by decide) hF (fun x24 hF => ?_)
            refine r_iload_n C dX12_facet_102 rfl 1 rfl ?_
            refine k_aI C dX12_facet_103 hF (fun x25 hF => ?_)
            refine r_iadd C dX12_facet_104 ?_
            refine r_iload_n C dX12_facet_105 rfl 3 rfl ?_
            refine k_sI C dX12_facet_106 hF (fun h26 hF => ?_)
            refine r_aload_n C dX12_facet_107 rfl 0 rfl ?_
            refine k_gR C dX12_facet_108 fd_X12_74 (by decide) hF (fun x27 hF => ?_)
            refine r_iload_n C dX12_facet_111 rfl 1 rfl ?_
            refine r_dup2 C dX12_facet_112 rfl rfl ?_
            refine k_aI C dX12_facet_113 hF (fun x28 hF => ?_)
            refine r_iconst (v := 1) C dX12_facet_114 (by decide) ?_
            refine r_iadd C dX12_facet_115 ?_
            refine k_sI C dX12_facet_116 hF (fun h29 hF => ?_)
            refine r_aload_n C dX12_facet_117 rfl 0 rfl ?_
            refine k_gR C dX12_facet_118 fd_X12_74 (by decide) hF (fun x30 hF => ?_)
            refine r_iload_n C dX12_facet_121 rfl 1 rfl ?_
            refine k_aI C dX12_facet_122 hF (fun x31 hF => ?_)
            exact k_iret C dX12_facet_123 hr (by decide) (by decide) hF
          · refine r_bipush (v := (-2)) C dX12_facet_70 (by decide) ?_
            exact k_iret C dX12_facet_72 hr (by decide) (by decide) hF
        · refine r_iconst (v := (-1)) C dX12_facet_57 (by decide) ?_
          exact k_iret C dX12_facet_58 hr (by decide) (by decide) hF
      · exact r_sub [] rfl (Jk46  _ hF)
    obtain ⟨k38, ek38, hF⟩ := jn_some hF
    have Jk38 : ∀ (s32 : Nat) (h33 : PM), k38 s32 h33 = some X → WP p l e (rmN 0 0 2) s m args below meth c D cy base ρ h0 0 0 4 (MQ below (QR D cy base ρ h0 (some (.int X.1)) X.2) args s 0 0 (fun q => base ≤ q)) 38 [(0, .ref a0), (1, .int a1), (2, .int a2), (3, .int a3)] [.ref s32] h33 := by
      intro s32 h33 hF
      rw [ek38] at hF
      refine r_iconst (v := 0) C dX12_facet_38 (by decide) ?_
      exact Jk39 _ _ _ hF
    refine r_if_eq (tgt := 38) C dX12_facet_21 (by decide) hF (fun hF => ?_) (fun hF => ?_)
    · exact Jk38 _ _ hF
    · refine r_iload_n C dX12_facet_24 rfl 3 rfl ?_
      refine r_iconst (v := 0) C dX12_facet_25 (by decide) ?_
      refine r_bipush (v := 90) C dX12_facet_26 (by decide) ?_
      obtain ⟨r34, h35, hc36, hF⟩ := cl_some hF
      refine r_callS (As := [.int a3, .int 0, .int 90]) C dX12_facet_28 V hT cal_X12_within ml_X12_129 sm_X12_within (by decide) rfl rfl (Nat.le_of_ble_eq_true rfl) (by decide) (by decide) (S_X12_within _ _ hc36) ?_
      refine r_if_eq (tgt := 38) C dX12_facet_31 (by decide) hF (fun hF => ?_) (fun hF => ?_)
      · exact Jk38 _ _ hF
      · refine r_iconst (v := 1) C dX12_facet_34 (by decide) ?_
        refine r_goto (tgt := 39) C dX12_facet_35 (by decide) ?_
        exact Jk39 _ _ _ hF
def F_X12_off (a0 : Int32) (h0 : PM) : Option (Int32 × PM) := jn (fun (s1 : Int32) (h2 : PM) => some (s1, h2)) fun k10 => if 0 ≤ a0 then (k10 a0 h0) else (k10 (-a0) h0)
set_option maxRecDepth 100000 in
set_option maxHeartbeats 4000000 in
theorem S_X12_off {a0 : Int32} {h0 : PM} (r : Int32) (h' : PM) (hF : F_X12_off a0 h0 = some (r, h')) : CN yX12_off cX12_off 1 (some .int) 0 0 0 [.int a0] h0 (some (.int r)) h' := by
  obtain ⟨X, eX⟩ : ∃ X, X = (r, h') := ⟨_, rfl⟩
  rw [← eX] at hF
  have e1 : r = X.1 := by rw [eX]
  have e2 : h' = X.2 := by rw [eX]
  rw [e1, e2]
  clear eX e1 e2
  unfold F_X12_off at hF
  refine CN_of (by decide) (fun ρ => Nat.le_of_ble_eq_true rfl) rfl ?_
  intro p l e s m args below meth c D cy base ρ hT C V hr hnm
  refine r_iload_n C dX12_off_0 rfl 0 rfl ?_
  obtain ⟨k10, ek10, hF⟩ := jn_some hF
  have Jk10 : ∀ (s1 : Int32) (h2 : PM), k10 s1 h2 = some X → WP p l e (rmN 0 0 0) s m args below meth c D cy base ρ h0 0 0 1 (MQ below (QR D cy base ρ h0 (some (.int X.1)) X.2) args s 0 0 (fun q => base ≤ q)) 10 [] [.int s1] h2 := by
    intro s1 h2 hF
    rw [ek10] at hF
    exact k_iret C dX12_off_10 hr (by decide) (by decide) hF
  refine r_if_ge (tgt := 9) C dX12_off_1 (by decide) hF (fun hF => ?_) (fun hF => ?_)
  · refine r_iload_n C dX12_off_9 rfl 0 rfl ?_
    exact r_sub [] rfl (Jk10 _ _ hF)
  · refine r_iload_n C dX12_off_4 rfl 0 rfl ?_
    refine r_ineg C dX12_off_5 ?_
    refine r_goto (tgt := 10) C dX12_off_6 (by decide) ?_
    exact r_sub [] rfl (Jk10 _ _ hF)
def F_X12_way (a0 : Int32) (a1 : Int32) (a2 : Int32) (a3 : Int32) (h0 : PM) : Option (Int32 × PM) := cl (F_X12_off (a0 - a2) h0) fun r1 h2 => jn (fun (s4 : Int32) (h5 : PM) => cl (F_X12_off (a1 - a3) h5) fun r6 h7 => some (s4 + (2 * r6), h7)) fun k28 => if (96 - r1) ≤ r1 then (k28 (96 - r1) h2) else (k28 r1 h2)
set_option maxRecDepth 100000 in
set_option maxHeartbeats 4000000 in
theorem S_X12_way {a0 : Int32} {a1 : Int32} {a2 : Int32} {a3 : Int32} {h0 : PM} (r : Int32) (h' : PM) (hF : F_X12_way a0 a1 a2 a3 h0 = some (r, h')) : CN yX12_way cX12_way 5 (some .int) 0 0 1 [.int a0, .int a1, .int a2, .int a3] h0 (some (.int r)) h' := by
  obtain ⟨X, eX⟩ : ∃ X, X = (r, h') := ⟨_, rfl⟩
  rw [← eX] at hF
  have e1 : r = X.1 := by rw [eX]
  have e2 : h' = X.2 := by rw [eX]
  rw [e1, e2]
  clear eX e1 e2
  unfold F_X12_way at hF
  refine CN_of (by decide) (fun ρ => Nat.le_of_ble_eq_true rfl) rfl ?_
  intro p l e s m args below meth c D cy base ρ hT C V hr hnm
  refine r_iload_n C dX12_way_0 rfl 0 rfl ?_
  refine r_iload_n C dX12_way_1 rfl 2 rfl ?_
  refine r_isub C dX12_way_2 ?_
  obtain ⟨r1, h2, hc3, hF⟩ := cl_some hF
  refine r_callS (As := [.int (a0 - a2)]) C dX12_way_3 V hT cal_X12_off ml_X12_245 sm_X12_off (by decide) rfl rfl (Nat.le_of_ble_eq_true rfl) (by decide) (by decide) (S_X12_off _ _ hc3) ?_
  refine r_istore C dX12_way_6 (by decide) rfl ?_
  refine r_iload C dX12_way_8 0 rfl ?_
  refine r_bipush (v := 96) C dX12_way_10 (by decide) ?_
  refine r_iload C dX12_way_12 0 rfl ?_
  refine r_isub C dX12_way_14 ?_
  obtain ⟨k28, ek28, hF⟩ := jn_some hF
  have Jk28 : ∀ (s4 : Int32) (h5 : PM), k28 s4 h5 = some X → WP p l e (rmN 0 0 1) s m args below meth c D cy base ρ h0 0 0 5 (MQ below (QR D cy base ρ h0 (some (.int X.1)) X.2) args s 0 0 (fun q => base ≤ q)) 28 [(1, .int a1), (3, .int a3)] [.int s4] h5 := by
    intro s4 h5 hF
    rw [ek28] at hF
    refine r_iconst (v := 2) C dX12_way_28 (by decide) ?_
    refine r_iload_n C dX12_way_29 rfl 0 rfl ?_
    refine r_iload_n C dX12_way_30 rfl 1 rfl ?_
    refine r_isub C dX12_way_31 ?_
    obtain ⟨r6, h7, hc8, hF⟩ := cl_some hF
    refine r_callS (As := [.int (a1 - a3)]) C dX12_way_32 V hT cal_X12_off ml_X12_245 sm_X12_off (by decide) rfl rfl (Nat.le_of_ble_eq_true rfl) (by decide) (by decide) (S_X12_off _ _ hc8) ?_
    refine r_imul C dX12_way_35 ?_
    refine r_iadd C dX12_way_36 ?_
    exact k_iret C dX12_way_37 hr (by decide) (by decide) hF
  refine r_icmp_ge (tgt := 23) C dX12_way_15 (by decide) hF (fun hF => ?_) (fun hF => ?_)
  · refine r_bipush (v := 96) C dX12_way_23 (by decide) ?_
    refine r_iload C dX12_way_25 0 rfl ?_
    refine r_isub C dX12_way_27 ?_
    exact r_sub [2, 4] rfl (Jk28 _ _ hF)
  · refine r_iload C dX12_way_18 0 rfl ?_
    refine r_goto (tgt := 28) C dX12_way_20 (by decide) ?_
    exact r_sub [2, 4] rfl (Jk28 _ _ hF)
def F_X12_between (a0 : Nat) (a1 : Int32) (a2 : Int32) (a3 : Int32) (h0 : PM) : Option (Int32 × PM) := gR h0 a0 13 37 fun x1 => aI h0 x1 ((8 * a1) + a2) fun x2 => gR h0 a0 13 38 fun x3 => aI h0 x3 ((8 * a1) + a2) fun x4 => gR h0 a0 13 37 fun x5 => aI h0 x5 ((8 * a1) + a3) fun x6 => gR h0 a0 13 38 fun x7 => aI h0 x7 ((8 * a1) + a3) fun x8 => cl (F_X12_way x2 x4 x6 x8 h0) fun r9 h10 => some (r9, h10)
set_option maxRecDepth 100000 in
set_option maxHeartbeats 4000000 in
theorem S_X12_between {a0 : Nat} {a1 : Int32} {a2 : Int32} {a3 : Int32} {h0 : PM} (r : Int32) (h' : PM) (hF : F_X12_between a0 a1 a2 a3 h0 = some (r, h')) : CN yX12_between cX12_between 4 (some .int) 0 0 2 [.ref a0, .int a1, .int a2, .int a3] h0 (some (.int r)) h' := by
  obtain ⟨X, eX⟩ : ∃ X, X = (r, h') := ⟨_, rfl⟩
  rw [← eX] at hF
  have e1 : r = X.1 := by rw [eX]
  have e2 : h' = X.2 := by rw [eX]
  rw [e1, e2]
  clear eX e1 e2
  unfold F_X12_between at hF
  refine CN_of (by decide) (fun ρ => Nat.le_of_ble_eq_true rfl) rfl ?_
  intro p l e s m args below meth c D cy base ρ hT C V hr hnm
  refine r_aload_n C dX12_between_0 rfl 0 rfl ?_
  refine k_gR C dX12_between_1 fd_X12_77 (by decide) hF (fun x1 hF => ?_)
  refine r_bipush (v := 8) C dX12_between_4 (by decide) ?_
  refine r_iload_n C dX12_between_6 rfl 1 rfl ?_
  refine r_imul C dX12_between_7 ?_
  refine r_iload_n C dX12_between_8 rfl 2 rfl ?_
  refine r_iadd C dX12_between_9 ?_
  refine k_aI C dX12_between_10 hF (fun x2 hF => ?_)
  refine r_aload_n C dX12_between_11 rfl 0 rfl ?_
  refine k_gR C dX12_between_12 fd_X12_80 (by decide) hF (fun x3 hF => ?_)
  refine r_bipush (v := 8) C dX12_between_15 (by decide) ?_
  refine r_iload_n C dX12_between_17 rfl 1 rfl ?_
  refine r_imul C dX12_between_18 ?_
  refine r_iload_n C dX12_between_19 rfl 2 rfl ?_
  refine r_iadd C dX12_between_20 ?_
  refine k_aI C dX12_between_21 hF (fun x4 hF => ?_)
  refine r_aload_n C dX12_between_22 rfl 0 rfl ?_
  refine k_gR C dX12_between_23 fd_X12_77 (by decide) hF (fun x5 hF => ?_)
  refine r_bipush (v := 8) C dX12_between_26 (by decide) ?_
  refine r_iload_n C dX12_between_28 rfl 1 rfl ?_
  refine r_imul C dX12_between_29 ?_
  refine r_iload_n C dX12_between_30 rfl 3 rfl ?_
  refine r_iadd C dX12_between_31 ?_
  refine k_aI C dX12_between_32 hF (fun x6 hF => ?_)
  refine r_aload_n C dX12_between_33 rfl 0 rfl ?_
  refine k_gR C dX12_between_34 fd_X12_80 (by decide) hF (fun x7 hF => ?_)
  refine r_bipush (v := 8) C dX12_between_37 (by decide) ?_
  refine r_iload_n C dX12_between_39 rfl 1 rfl ?_
  refine r_imul C dX12_between_40 ?_
  refine r_iload_n C dX12_between_41 rfl 3 rfl ?_
  refine r_iadd C dX12_between_42 ?_
  refine k_aI C dX12_between_43 hF (fun x8 hF => ?_)
  obtain ⟨r9, h10, hc11, hF⟩ := cl_some hF
  refine r_callS (As := [.int x2, .int x4, .int x6, .int x8]) C dX12_between_44 V hT cal_X12_way ml_X12_248 sm_X12_way (by decide) rfl rfl (Nat.le_of_ble_eq_true rfl) (by decide) (by decide) (S_X12_way _ _ hc11) ?_
  exact k_iret C dX12_between_47 hr (by decide) (by decide) hF
def F_X12_first (a0 : Nat) (a1 : Int32) (a2 : Int32) (h0 : PM) : Option (Int32 × PM) := gR h0 a0 13 37 fun x1 => aI h0 x1 ((8 * a1) + a2) fun x2 => gR h0 a0 13 38 fun x3 => aI h0 x3 ((8 * a1) + a2) fun x4 => cl (F_X12_way 0 0 x2 x4 h0) fun r5 h6 => some (r5, h6)
set_option maxRecDepth 100000 in
set_option maxHeartbeats 4000000 in
theorem S_X12_first {a0 : Nat} {a1 : Int32} {a2 : Int32} {h0 : PM} (r : Int32) (h' : PM) (hF : F_X12_first a0 a1 a2 h0 = some (r, h')) : CN yX12_first cX12_first 3 (some .int) 0 0 2 [.ref a0, .int a1, .int a2] h0 (some (.int r)) h' := by
  obtain ⟨X, eX⟩ : ∃ X, X = (r, h') := ⟨_, rfl⟩
  rw [← eX] at hF
  have e1 : r = X.1 := by rw [eX]
  have e2 : h' = X.2 := by rw [eX]
  rw [e1, e2]
  clear eX e1 e2
  unfold F_X12_first at hF
  refine CN_of (by decide) (fun ρ => Nat.le_of_ble_eq_true rfl) rfl ?_
  intro p l e s m args below meth c D cy base ρ hT C V hr hnm
  refine r_iconst (v := 0) C dX12_first_0 (by decide) ?_
  refine r_iconst (v := 0) C dX12_first_1 (by decide) ?_
  refine r_aload_n C dX12_first_2 rfl 0 rfl ?_
  refine k_gR C dX12_first_3 fd_X12_77 (by decide) hF (fun x1 hF => ?_)
  refine r_bipush (v := 8) C dX12_first_6 (by decide) ?_
  refine r_iload_n C dX12_first_8 rfl 1 rfl ?_
  refine r_imul C dX12_first_9 ?_
  refine r_iload_n C dX12_first_10 rfl 2 rfl ?_
  refine r_iadd C dX12_first_11 ?_
  refine k_aI C dX12_first_12 hF (fun x2 hF => ?_)
  refine r_aload_n C dX12_first_13 rfl 0 rfl ?_
  refine k_gR C dX12_first_14 fd_X12_80 (by decide) hF (fun x3 hF => ?_)
  refine r_bipush (v := 8) C dX12_first_17 (by decide) ?_
  refine r_iload_n C dX12_first_19 rfl 1 rfl ?_
  refine r_imul C dX12_first_20 ?_
  refine r_iload_n C dX12_first_21 rfl 2 rfl ?_
  refine r_iadd C dX12_first_22 ?_
  refine k_aI C dX12_first_23 hF (fun x4 hF => ?_)
  obtain ⟨r5, h6, hc7, hF⟩ := cl_some hF
  refine r_callS (As := [.int 0, .int 0, .int x2, .int x4]) C dX12_first_24 V hT cal_X12_way ml_X12_248 sm_X12_way (by decide) rfl rfl (Nat.le_of_ble_eq_true rfl) (by decide) (by decide) (S_X12_way _ _ hc7) ?_
  exact k_iret C dX12_first_27 hr (by decide) (by decide) hF
def F_X12_findPlan_L187 (c0 : Nat) (c1 : Int32) (c2 : Int32) (c4 : Int32) (c5 : Int32) (c6 : Int32) (c7 : Int32) (k277 : Int32 → Int32 → PM → Option (Int32 × PM)) : Nat → Int32 → Int32 → Int32 → PM → Option (Int32 × PM)
  | 0, _, _, _, _ => none
  | fu + 1, v21, v22, v23, h24 => if c2 ≤ v23 then (k277 v21 v22 h24) else (jn (fun (v25 : Int32) (v26 : Int32) (h27 : PM) => F_X12_findPlan_L187 c0 c1 c2 c4 c5 c6 c7 k277 fu v25 v26 (v23 + 1) h27) fun k271 => if ¬ ((c4 >>> (v23 &&& 31)) &&& 1) = 1 then (jn (fun (s29 : Int32) (h30 : PM) => gR h30 c0 13 43 fun x31 => aI h30 x31 ((8 * (c4 ||| ((1 : Int32) <<< (v23 &&& 31)))) + v23) fun x32 => lt_ (s29 + x32) fun x33 => if x33 < v22 then (k271 v23 x33 h30) else (k271 v21 v22 h30)) fun k232 => if ¬ c5 = (-1) then (tst h24 c0 13 (cl (F_X12_between c0 c1 c5 v23 h24) fun r34 h35 => k232 r34 h35)) else (tst h24 c0 13 (cl (F_X12_first c0 c1 v23 h24) fun r37 h38 => k232 r37 h38))) else (k271 v21 v22 h24))
def F_X12_findPlan_L171 (c0 : Nat) (c1 : Int32) (c2 : Int32) (k314 : Int32 → PM → Option (Int32 × PM)) : Nat → Int32 → Int32 → Int32 → Int32 → PM → Option (Int32 × PM)
  | 0, _, _, _, _, _ => none
  | fu + 1, v7, v8, v9, v10, h11 => if c2 ≤ v10 then (k314 v9 h11) else (jn (fun (v12 : Int32) (v13 : Int32) (h14 : PM) => jn (fun (v15 : Int32) (h16 : PM) => gR h16 c0 13 44 fun x17 => sI h16 x17 v10 v12 fun h18 => lt_ (v7 ||| ((1 : Int32) <<< (v12 &&& 31))) fun x19 => F_X12_findPlan_L171 c0 c1 c2 k314 fu x19 v12 v15 (v10 + 1) h18) fun k286 => if ¬ v10 = 0 then (k286 v9 h14) else (k286 v13 h14)) fun k277 => F_X12_findPlan_L187 c0 c1 c2 v7 v8 v9 v10 k277 LF (-1) 1000000000 0 h11)
def F_X12_findPlan_L47 (c0 : Nat) (c1 : Int32) (c2 : Int32) (c3 : Int32) (c4 : Int32) (c5 : Int32) (k132 : Int32 → PM → Option (Int32 × PM)) : Nat → Int32 → Int32 → PM → Option (Int32 × PM)
  | 0, _, _, _ => none
  | fu + 1, v58, v59, h60 => if c2 ≤ v59 then (k132 v58 h60) else (jn (fun (v61 : Int32) (h62 : PM) => F_X12_findPlan_L47 c0 c1 c2 c3 c4 c5 k132 fu v61 (v59 + 1) h62) fun k126 => if ¬ ((c4 >>> (v59 &&& 31)) &&& 1) = 0 then (k126 v58 h60) else (tst h60 c0 13 (cl (F_X12_between c0 c1 c5 v59 h60) fun r64 h65 => gR h65 c0 13 43 fun x67 => aI h65 x67 ((8 * (c4 ||| ((1 : Int32) <<< (v59 &&& 31)))) + v59) fun x68 => if v58 ≤ (r64 + x68) then (k126 v58 h65) else (tst h65 c0 13 (cl (F_X12_between c0 c1 c5 v59 h65) fun r69 h70 => gR h70 c0 13 43 fun x72 => aI h70 x72 ((8 * (c4 ||| ((1 : Int32) <<< (v59 &&& 31)))) + v59) fun x73 => lt_ (r69 + x73) fun x74 => k126 x74 h70)))))
def F_X12_findPlan_L24 (c0 : Nat) (c1 : Int32) (c2 : Int32) (c3 : Int32) (c4 : Int32) (k153 : PM → Option (Int32 × PM)) : Nat → Int32 → PM → Option (Int32 × PM)
  | 0, _, _ => none
  | fu + 1, v49, h50 => if c2 ≤ v49 then (k153 h50) else (jn (fun (s51 : Int32) (h52 : PM) => jn (fun (v53 : Int32) (h54 : PM) => gR h54 c0 13 43 fun x55 => sI h54 x55 ((8 * c4) + v49) v53 fun h56 => F_X12_findPlan_L24 c0 c1 c2 c3 c4 k153 fu (v49 + 1) h56) fun k132 => F_X12_findPlan_L47 c0 c1 c2 c3 c4 v49 k132 LF s51 0 h52) fun k42 => if ¬ c4 = c3 then (k42 1000000000 h50) else (k42 0 h50))
def F_X12_findPlan_L16 (c0 : Nat) (c1 : Int32) (c2 : Int32) (c3 : Int32) (k159 : PM → Option (Int32 × PM)) : Nat → Int32 → PM → Option (Int32 × PM)
  | 0, _, _ => none
  | fu + 1, v45, h46 => if v45 ≤ 0 then (k159 h46) else (jn (fun  (h47 : PM) => F_X12_findPlan_L16 c0 c1 c2 c3 k159 fu (v45 + (-1)) h47) fun k153 => F_X12_findPlan_L24 c0 c1 c2 c3 v45 k153 LF 0 h46)
def F_X12_findPlan (a0 : Nat) (a1 : Int32) (h0 : PM) : Option (Int32 × PM) := gR h0 a0 13 36 fun x1 => aI h0 x1 a1 fun x2 => lt_ (((1 : Int32) <<< (x2 &&& 31)) - 1) fun x3 => jn (fun  (h4 : PM) => jn (fun (v5 : Int32) (h6 : PM) => some (v5, h6)) fun k314 => F_X12_findPlan_L171 a0 a1 x2 k314 LF 0 (-1) 0 0 h4) fun k159 => F_X12_findPlan_L16 a0 a1 x2 x3 k159 LF x3 h0
set_option maxRecDepth 100000 in
set_option maxHeartbeats 4000000 in
theorem S_X12_findPlan {a0 : Nat} {a1 : Int32} {h0 : PM} (r : Int32) (h' : PM) (hF : F_X12_findPlan a0 a1 h0 = some (r, h')) : CN yX12_findPlan cX12_findPlan 12 (some .int) 0 0 3 [.ref a0, .int a1] h0 (some (.int r)) h' := by
  obtain ⟨X, eX⟩ : ∃ X, X = (r, h') := ⟨_, rfl⟩
  rw [← eX] at hF
  have e1 : r = X.1 := by rw [eX]
  have e2 : h' = X.2 := by rw [eX]
  rw [e1, e2]
  clear eX e1 e2
  unfold F_X12_findPlan at hF
  refine CN_of (by decide) (fun ρ => Nat.le_of_ble_eq_true rfl) rfl ?_
  intro p l e s m args below meth c D cy base ρ hT C V hr hnm
  refine r_aload_n C dX12_findPlan_0 rfl 0 rfl ?_
  refine k_gR C dX12_findPlan_1 fd_X12_74 (by decide) hF (fun x1 hF => ?_)
  refine r_iload_n C dX12_findPlan_4 rfl 1 rfl ?_
  refine k_aI C dX12_findPlan_5 hF (fun x2 hF => ?_)
  refine r_istore_n C dX12_findPlan_6 rfl (by decide) rfl ?_
  refine r_iconst (v := 1) C dX12_findPlan_7 (by decide) ?_
  refine r_iload_n C dX12_findPlan_8 rfl 0 rfl ?_
  refine r_ishl C dX12_findPlan_9 ?_
  refine r_iconst (v := 1) C dX12_findPlan_10 (by decide) ?_
  refine r_isub C dX12_findPlan_11 ?_
  refine k_lti hF (fun x3 hF => ?_)
  refine r_istore_n C dX12_findPlan_12 rfl (by decide) rfl ?_
  refine r_iload_n C dX12_findPlan_13 rfl 0 rfl ?_
  refine r_istore C dX12_findPlan_14 (by decide) rfl ?_
  obtain ⟨k159, ek159, hF⟩ := jn_some hF
  have Jk159 : ∀  (h4 : PM), k159 h4 = some X → WP p l e (rmN 0 0 3) s m args below meth c D cy base ρ h0 0 0 12 (MQ below (QR D cy base ρ h0 (some (.int X.1)) X.2) args s 0 0 (fun q => base ≤ q)) 159 [(0, .ref a0), (1, .int a1), (2, .int x2)] [] h4 := by
    intro h4 hF
    rw [ek159] at hF
    refine r_iconst (v := 0) C dX12_findPlan_159 (by decide) ?_
    refine r_istore C dX12_findPlan_160 (by decide) rfl ?_
    refine r_iconst (v := (-1)) C dX12_findPlan_162 (by decide) ?_
    refine r_istore C dX12_findPlan_163 (by decide) rfl ?_
    refine r_iconst (v := 0) C dX12_findPlan_165 (by decide) ?_
    refine r_istore C dX12_findPlan_166 (by decide) rfl ?_
    refine r_iconst (v := 0) C dX12_findPlan_168 (by decide) ?_
    refine r_istore C dX12_findPlan_169 (by decide) rfl ?_
    obtain ⟨k314, ek314, hF⟩ := jn_some hF
    have Jk314 : ∀ (v5 : Int32) (h6 : PM), k314 v5 h6 = some X → WP p l e (rmN 0 0 3) s m args below meth c D cy base ρ h0 0 0 12 (MQ below (QR D cy base ρ h0 (some (.int X.1)) X.2) args s 0 0 (fun q => base ≤ q)) 314 [(6, .int v5)] [] h6 := by
      intro v5 h6 hF
      rw [ek314] at hF
      refine r_iload C dX12_findPlan_314 0 rfl ?_
      exact k_iret C dX12_findPlan_316 hr (by decide) (by decide) hF
    have L171 : ∀ (fu : Nat) (v7 : Int32) (v8 : Int32) (v9 : Int32) (v10 : Int32) (h11 : PM), F_X12_findPlan_L171 a0 a1 x2 k314 fu v7 v8 v9 v10 h11 = some X → WP p l e (rmN 0 0 3) s m args below meth c D cy base ρ h0 0 0 12 (MQ below (QR D cy base ρ h0 (some (.int X.1)) X.2) args s 0 0 (fun q => base ≤ q)) 171 [(0, .ref a0), (1, .int a1), (2, .int x2), (4, .int v7), (5, .int v8), (6, .int v9), (7, .int v10)] [] h11 := by
      intro fu
      induction fu with
      | zero => intro v7 v8 v9 v10 h11 hF; rw [F_X12_findPlan_L171.eq_1] at hF; cases hF
      | succ fu ih =>
        intro v7 v8 v9 v10 h11 hF
        rw [F_X12_findPlan_L171.eq_2] at hF
        refine r_iload C dX12_findPlan_171 6 rfl ?_
        refine r_iload_n C dX12_findPlan_173 rfl 2 rfl ?_
        refine r_icmp_ge (tgt := 314) C dX12_findPlan_174 (by decide) hF (fun hF => ?_) (fun hF => ?_)
        · exact r_sub [5] rfl (Jk314 _ _ hF)
        · refine r_iconst (v := (-1)) C dX12_findPlan_177 (by decide) ?_
          refine r_istore C dX12_findPlan_178 (by decide) rfl ?_
          refine r_ldc C dX12_findPlan_180 ct_X12_252 ?_
          refine r_istore C dX12_findPlan_182 (by decide) rfl ?_
          refine r_iconst (v := 0) C dX12_findPlan_184 (by decide) ?_
          refine r_istore C dX12_findPlan_185 (by decide) rfl ?_
          obtain ⟨k277_14, ek277_14, hF⟩ := jn_some hF
          have Jk277_14 : ∀ (v12 : Int32) (v13 : Int32) (h15 : PM), k277_14 v12 v13 h15 = some X → WP p l e (rmN 0 0 3) s m args below meth c D cy base ρ h0 0 0 12 (MQ below (QR D cy base ρ h0 (some (.int X.1)) X.2) args s 0 0 (fun q => base ≤ q)) 277 [(0, .ref a0), (1, .int a1), (2, .int x2), (4, .int v7), (6, .int v9), (7, .int v10), (8, .int v12), (9, .int v13)] [] h15 := by
            intro v12 v13 h15 hF
            rw [ek277_14] at hF
            refine r_iload C dX12_findPlan_277 5 rfl ?_
            obtain ⟨k286_17, ek286_17, hF⟩ := jn_some hF
            have Jk286_17 : ∀ (v16 : Int32) (h18 : PM), k286_17 v16 h18 = some X → WP p l e (rmN 0 0 3) s m args below meth c D cy base ρ h0 0 0 12 (MQ below (QR D cy base ρ h0 (some (.int X.1)) X.2) args s 0 0 (fun q => base ≤ q)) 286 [(0, .ref a0), (1, .int a1), (2, .int x2), (4, .int v7), (6, .int v16), (7, .int v10), (8, .int v12)] [] h18 := by
              intro v16 h18 hF
              rw [ek286_17] at hF
              refine r_aload_n C dX12_findPlan_286 rfl 0 rfl ?_
              refine k_gR C dX12_findPlan_287 fd_X12_99 (by decide) hF (fun x19 hF => ?_)
              refine r_iload C dX12_findPlan_290 5 rfl ?_
              refine r_iload C dX12_findPlan_292 6 rfl ?_
              refine k_sI C dX12_findPlan_294 hF (fun h20 hF => ?_)
              refine r_iload C dX12_findPlan_295 3 rfl ?_
              refine r_iconst (v := 1) C dX12_findPlan_297 (by decide) ?_
              refine r_iload C dX12_findPlan_298 6 rfl ?_
              refine r_ishl C dX12_findPlan_300 ?_
              refine r_ior C dX12_findPlan_301 ?_
              refine k_lti hF (fun x21 hF => ?_)
              refine r_istore C dX12_findPlan_302 (by decide) rfl ?_
              refine r_iload C dX12_findPlan_304 6 rfl ?_
              refine r_istore C dX12_findPlan_306 (by decide) rfl ?_
              refine r_iinc (v := v10 + 1) C dX12_findPlan_308 6 rfl (congrArg (fun z => v10 + z) (by decide)) (by decide) rfl ?_
              refine r_goto (tgt := 171) C dX12_findPlan_311 (by decide) ?_
              exact r_sub [3, 4, 5, 2, 1, 6, 0] rfl (ih _ _ _ _ _ hF)
            refine r_if_ne (tgt := 286) C dX12_findPlan_279 (by decide) hF (fun hF => ?_) (fun hF => ?_)
            · exact r_sub [0, 1, 2, 3, 4, 5, 6] rfl (Jk286_17 _ _ hF)
            · refine r_iload C dX12_findPlan_282 7 rfl ?_
              refine r_istore C dX12_findPlan_284 (by decide) rfl ?_
              exact r_sub [1, 2, 3, 4, 0, 5, 6] rfl (Jk286_17 _ _ hF)
          have L187_44 : ∀ (fu : Nat) (v23 : Int32) (v24 : Int32) (v25 : Int32) (h26 : PM), F_X12_findPlan_L187 a0 a1 x2 v7 v8 v9 v10 k277_14 fu v23 v24 v25 h26 = some X → WP p l e (rmN 0 0 3) s m args below meth c D cy base ρ h0 0 0 12 (MQ below (QR D cy base ρ h0 (some (.int X.1)) X.2) args s 0 0 (fun q => base ≤ q)) 187 [(0, .ref a0), (1, .int a1), (2, .int x2), (4, .int v7), (5, .int v8), (6, .int v9), (7, .int v10), (8, .int v23), (9, .int v24), (10, .int v25)] [] h26 := by
            intro fu
            induction fu with
            | zero => intro v23 v24 v25 h26 hF; rw [F_X12_findPlan_L187.eq_1] at hF; cases hF
            | succ fu ih =>
              intro v23 v24 v25 h26 hF
              rw [F_X12_findPlan_L187.eq_2] at hF
              refine r_iload C dX12_findPlan_187 9 rfl ?_
              refine r_iload_n C dX12_findPlan_189 rfl 2 rfl ?_
              refine r_icmp_ge (tgt := 277) C dX12_findPlan_190 (by decide) hF (fun hF => ?_) (fun hF => ?_)
              · exact r_sub [0, 1, 2, 3, 5, 6, 7, 8] rfl (Jk277_14 _ _ _ hF)
              · refine r_iload C dX12_findPlan_193 3 rfl ?_
                refine r_iload C dX12_findPlan_195 9 rfl ?_
                refine r_ishr C dX12_findPlan_197 ?_
                refine r_iconst (v := 1) C dX12_findPlan_198 (by decide) ?_
                refine r_iand C dX12_findPlan_199 ?_
                refine r_iconst (v := 1) C dX12_findPlan_200 (by decide) ?_
                obtain ⟨k271_29, ek271_29, hF⟩ := jn_some hF
                have Jk271_29 : ∀ (v27 : Int32) (v28 : Int32) (h30 : PM), k271_29 v27 v28 h30 = some X → WP p l e (rmN 0 0 3) s m args below meth c D cy base ρ h0 0 0 12 (MQ below (QR D cy base ρ h0 (some (.int X.1)) X.2) args s 0 0 (fun q => base ≤ q)) 271 [(0, .ref a0), (1, .int a1), (2, .int x2), (4, .int v7), (5, .int v8), (6, .int v9), (7, .int v10), (8, .int v27), (9, .int v28), (10, .int v25)] [] h30 := by
                  intro v27 v28 h30 hF
                  rw [ek271_29] at hF
                  refine r_iinc (v := v25 + 1) C dX12_findPlan_271 9 rfl (congrArg (fun z => v25 + z) (by decide)) (by decide) rfl ?_
                  refine r_goto (tgt := 187) C dX12_findPlan_274 (by decide) ?_
                  exact r_sub [1, 2, 3, 4, 5, 6, 7, 8, 9, 0] rfl (ih _ _ _ _ hF)
                refine r_icmp_ne (tgt := 207) C dX12_findPlan_201 (by decide) hF (fun hF => ?_) (fun hF => ?_)
                · refine r_iload C dX12_findPlan_207 4 rfl ?_
                  refine r_iconst (v := (-1)) C dX12_findPlan_209 (by decide) ?_
                  obtain ⟨k232_33, ek232_33, hF⟩ := jn_some hF
                  have Jk232_33 : ∀ (s32 : Int32) (h34 : PM), k232_33 s32 h34 = some X → WP p l e (rmN 0 0 3) s m args below meth c D cy base ρ h0 0 0 12 (MQ below (QR D cy base ρ h0 (some (.int X.1)) X.2) args s 0 0 (fun q => base ≤ q)) 232 [(0, .ref a0), (1, .int a1), (2, .int x2), (4, .int v7), (5, .int v8), (6, .int v9), (7, .int v10), (8, .int v23), (9, .int v24), (10, .int v25)] [.int s32] h34 := by
                    intro s32 h34 hF
                    rw [ek232_33] at hF
                    refine r_aload_n C dX12_findPlan_232 rfl 0 rfl ?_
                    refine k_gR C dX12_findPlan_233 fd_X12_96 (by decide) hF (fun x35 hF => ?_)
                    refine r_bipush (v := 8) C dX12_findPlan_236 (by decide) ?_
                    refine r_iload C dX12_findPlan_238 3 rfl ?_
                    refine r_iconst (v := 1) C dX12_findPlan_240 (by decide) ?_
                    refine r_iload C dX12_findPlan_241 9 rfl ?_
                    refine r_ishl C dX12_findPlan_243 ?_
                    refine r_ior C dX12_findPlan_244 ?_
                    refine r_imul C dX12_findPlan_245 ?_
                    refine r_iload C dX12_findPlan_246 9 rfl ?_
                    refine r_iadd C dX12_findPlan_248 ?_
                    refine k_aI C dX12_findPlan_249 hF (fun x36 hF => ?_)
                    refine r_iadd C dX12_findPlan_250 ?_
                    refine k_lti hF (fun x37 hF => ?_)
                    refine r_istore C dX12_findPlan_251 (by decide) rfl ?_
                    refine r_iload C dX12_findPlan_253 0 rfl ?_
                    refine r_iload C dX12_findPlan_255 9 rfl ?_
                    refine r_icmp_lt (tgt := 263) C dX12_findPlan_257 (by decide) hF (fun hF => ?_) (fun hF => ?_)
                    · refine r_iload C dX12_findPlan_263 10 rfl ?_
                      refine r_istore C dX12_findPlan_265 (by decide) rfl ?_
                      refine r_iload C dX12_findPlan_267 1 rfl ?_
                      refine r_istore C dX12_findPlan_269 (by decide) rfl ?_
                      exact r_sub [3, 4, 5, 6, 7, 8, 9, 1, 0, 10] rfl (Jk271_29 _ _ _ hF)
                    · refine r_goto (tgt := 271) C dX12_findPlan_260 (by decide) ?_
                      exact r_sub [1, 2, 3, 4, 5, 6, 7, 8, 9, 10] rfl (Jk271_29 _ _ _ hF)
                  refine r_icmp_ne (tgt := 223) C dX12_findPlan_210 (by decide) hF (fun hF => ?_) (fun hF => ?_)
                  · refine r_aload_n C dX12_findPlan_223 rfl 0 rfl ?_
                    refine r_iload_n C dX12_findPlan_224 rfl 1 rfl ?_
                    refine r_iload C dX12_findPlan_225 4 rfl ?_
                    refine r_iload C dX12_findPlan_227 9 rfl ?_
                    obtain ⟨ht, hF⟩ := tst_some hF
                    obtain ⟨r38, h39, hc40, hF⟩ := cl_some hF
                    refine r_callV (As := [.int a1, .int v8, .int v25]) C dX12_findPlan_229 V hT cal_X12_between cls_13 ml_X12_253 im_X12_between se_X12_between ht (by decide) rfl rfl (Nat.le_of_ble_eq_true rfl) (by decide) (by decide) (S_X12_between _ _ hc40) ?_
                    exact Jk232_33 _ _ hF
                  · refine r_aload_n C dX12_findPlan_213 rfl 0 rfl ?_
                    refine r_iload_n C dX12_findPlan_214 rfl 1 rfl ?_
                    refine r_iload C dX12_findPlan_215 9 rfl ?_
                    obtain ⟨ht, hF⟩ := tst_some hF
                    obtain ⟨r41, h42, hc43, hF⟩ := cl_some hF
                    refine r_callV (As := [.int a1, .int v25]) C dX12_findPlan_217 V hT cal_X12_first cls_13 ml_X12_256 im_X12_first se_X12_first ht (by decide) rfl rfl (Nat.le_of_ble_eq_true rfl) (by decide) (by decide) (S_X12_first _ _ hc43) ?_
                    refine r_goto (tgt := 232) C dX12_findPlan_220 (by decide) ?_
                    exact Jk232_33 _ _ hF
                · refine r_goto (tgt := 271) C dX12_findPlan_204 (by decide) ?_
                  exact Jk271_29 _ _ _ hF
          exact r_sub [3, 4, 5, 6, 7, 8, 9, 2, 1, 0] rfl (L187_44 _ _ _ _ _ hF)
    exact r_sub [4, 5, 6, 3, 2, 1, 0] rfl (L171 _ _ _ _ _ _ hF)
  have L16 : ∀ (fu : Nat) (v45 : Int32) (h46 : PM), F_X12_findPlan_L16 a0 a1 x2 x3 k159 fu v45 h46 = some X → WP p l e (rmN 0 0 3) s m args below meth c D cy base ρ h0 0 0 12 (MQ below (QR D cy base ρ h0 (some (.int X.1)) X.2) args s 0 0 (fun q => base ≤ q)) 16 [(0, .ref a0), (1, .int a1), (2, .int x2), (3, .int x3), (4, .int v45)] [] h46 := by
    intro fu
    induction fu with
    | zero => intro v45 h46 hF; rw [F_X12_findPlan_L16.eq_1] at hF; cases hF
    | succ fu ih =>
      intro v45 h46 hF
      rw [F_X12_findPlan_L16.eq_2] at hF
      refine r_iload C dX12_findPlan_16 4 rfl ?_
      refine r_if_le (tgt := 159) C dX12_findPlan_18 (by decide) hF (fun hF => ?_) (fun hF => ?_)
      · exact r_sub [0, 1, 2] rfl (Jk159  _ hF)
      · refine r_iconst (v := 0) C dX12_findPlan_21 (by decide) ?_
        refine r_istore C dX12_findPlan_22 (by decide) rfl ?_
        obtain ⟨k153_47, ek153_47, hF⟩ := jn_some hF
        have Jk153_47 : ∀  (h48 : PM), k153_47 h48 = some X → WP p l e (rmN 0 0 3) s m args below meth c D cy base ρ h0 0 0 12 (MQ below (QR D cy base ρ h0 (some (.int X.1)) X.2) args s 0 0 (fun q => base ≤ q)) 153 [(0, .ref a0), (1, .int a1), (2, .int x2), (3, .int x3), (4, .int v45)] [] h48 := by
          intro h48 hF
          rw [ek153_47] at hF
          refine r_iinc (v := v45 + (-1)) C dX12_findPlan_153 4 rfl (congrArg (fun z => v45 + z) (by decide)) (by decide) rfl ?_
          refine r_goto (tgt := 16) C dX12_findPlan_156 (by decide) ?_
          exact r_sub [1, 2, 3, 4, 0] rfl (ih _ _ hF)
        have L24_80 : ∀ (fu : Nat) (v50 : Int32) (h51 : PM), F_X12_findPlan_L24 a0 a1 x2 x3 v45 k153_47 fu v50 h51 = some X → WP p l e (rmN 0 0 3) s m args below meth c D cy base ρ h0 0 0 12 (MQ below (QR D cy base ρ h0 (some (.int X.1)) X.2) args s 0 0 (fun q => base ≤ q)) 24 [(0, .ref a0), (1, .int a1), (2, .int x2), (3, .int x3), (4, .int v45), (5, .int v50)] [] h51 := by
          intro fu
          induction fu with
          | zero => intro v50 h51 hF; rw [F_X12_findPlan_L24.eq_1] at hF; cases hF
          | succ fu ih =>
            intro v50 h51 hF
            rw [F_X12_findPlan_L24.eq_2] at hF
            refine r_iload C dX12_findPlan_24 5 rfl ?_
            refine r_iload_n C dX12_findPlan_26 rfl 2 rfl ?_
            refine r_icmp_ge (tgt := 153) C dX12_findPlan_27 (by decide) hF (fun hF => ?_) (fun hF => ?_)
            · exact r_sub [0, 1, 2, 3, 4] rfl (Jk153_47  _ hF)
            · refine r_iload C dX12_findPlan_30 4 rfl ?_
              refine r_iload_n C dX12_findPlan_32 rfl 3 rfl ?_
              obtain ⟨k42_53, ek42_53, hF⟩ := jn_some hF
              have Jk42_53 : ∀ (s52 : Int32) (h54 : PM), k42_53 s52 h54 = some X → WP p l e (rmN 0 0 3) s m args below meth c D cy base ρ h0 0 0 12 (MQ below (QR D cy base ρ h0 (some (.int X.1)) X.2) args s 0 0 (fun q => base ≤ q)) 42 [(0, .ref a0), (1, .int a1), (2, .int x2), (3, .int x3), (4, .int v45), (5, .int v50)] [.int s52] h54 := by
                intro s52 h54 hF
                rw [ek42_53] at hF
                refine r_istore C dX12_findPlan_42 (by decide) rfl ?_
                refine r_iconst (v := 0) C dX12_findPlan_44 (by decide) ?_
                refine r_istore C dX12_findPlan_45 (by decide) rfl ?_
                obtain ⟨k132_56, ek132_56, hF⟩ := jn_some hF
                have Jk132_56 : ∀ (v55 : Int32) (h57 : PM), k132_56 v55 h57 = some X → WP p l e (rmN 0 0 3) s m args below meth c D cy base ρ h0 0 0 12 (MQ below (QR D cy base ρ h0 (some (.int X.1)) X.2) args s 0 0 (fun q => base ≤ q)) 132 [(0, .ref a0), (1, .int a1), (2, .int x2), (3, .int x3), (4, .int v45), (5, .int v50), (6, .int v55)] [] h57 := by
                  intro v55 h57 hF
                  rw [ek132_56] at hF
                  refine r_aload_n C dX12_findPlan_132 rfl 0 rfl ?_
                  refine k_gR C dX12_findPlan_133 fd_X12_96 (by decide) hF (fun x58 hF => ?_)
                  refine r_bipush (v := 8) C dX12_findPlan_136 (by decide) ?_
                  refine r_iload C dX12_findPlan_138 4 rfl ?_
                  refine r_imul C dX12_findPlan_140 ?_
                  refine r_iload C dX12_findPlan_141 5 rfl ?_
                  refine r_iadd C dX12_findPlan_143 ?_
                  refine r_iload C dX12_findPlan_144 6 rfl ?_
                  refine k_sI C dX12_findPlan_146 hF (fun h59 hF => ?_)
                  refine r_iinc (v := v50 + 1) C dX12_findPlan_147 5 rfl (congrArg (fun z => v50 + z) (by decide)) (by decide) rfl ?_
                  refine r_goto (tgt := 24) C dX12_findPlan_150 (by decide) ?_
                  exact r_sub [1, 2, 3, 4, 5, 0] rfl (ih _ _ hF)
                have L47_79 : ∀ (fu : Nat) (v61 : Int32) (v62 : Int32) (h63 : PM), F_X12_findPlan_L47 a0 a1 x2 x3 v45 v50 k132_56 fu v61 v62 h63 = some X → WP p l e (rmN 0 0 3) s m args below meth c D cy base ρ h0 0 0 12 (MQ below (QR D cy base ρ h0 (some (.int X.1)) X.2) args s 0 0 (fun q => base ≤ q)) 47 [(0, .ref a0), (1, .int a1), (2, .int x2), (3, .int x3), (4, .int v45), (5, .int v50), (6, .int v61), (7, .int v62)] [] h63 := by
                  intro fu
                  induction fu with
                  | zero => intro v61 v62 h63 hF; rw [F_X12_findPlan_L47.eq_1] at hF; cases hF
                  | succ fu ih =>
                    intro v61 v62 h63 hF
                    rw [F_X12_findPlan_L47.eq_2] at hF
                    refine r_iload C dX12_findPlan_47 7 rfl ?_
                    refine r_iload_n C dX12_findPlan_49 rfl 2 rfl ?_
                    refine r_icmp_ge (tgt := 132) C dX12_findPlan_50 (by decide) hF (fun hF => ?_) (fun hF => ?_)
                    · exact r_sub [0, 1, 2, 3, 4, 5, 6] rfl (Jk132_56 _ _ hF)
                    · refine r_iload C dX12_findPlan_53 4 rfl ?_
                      refine r_iload C dX12_findPlan_55 7 rfl ?_
                      refine r_ishr C dX12_findPlan_57 ?_
                      refine r_iconst (v := 1) C dX12_findPlan_58 (by decide) ?_
                      refine r_iand C dX12_findPlan_59 ?_
                      obtain ⟨k126_65, ek126_65, hF⟩ := jn_some hF
                      have Jk126_65 : ∀ (v64 : Int32) (h66 : PM), k126_65 v64 h66 = some X → WP p l e (rmN 0 0 3) s m args below meth c D cy base ρ h0 0 0 12 (MQ below (QR D cy base ρ h0 (some (.int X.1)) X.2) args s 0 0 (fun q => base ≤ q)) 126 [(0, .ref a0), (1, .int a1), (2, .int x2), (3, .int x3), (4, .int v45), (5, .int v50), (6, .int v64), (7, .int v62)] [] h66 := by
                        intro v64 h66 hF
                        rw [ek126_65] at hF
                        refine r_iinc (v := v62 + 1) C dX12_findPlan_126 7 rfl (congrArg (fun z => v62 + z) (by decide)) (by decide) rfl ?_
                        refine r_goto (tgt := 47) C dX12_findPlan_129 (by decide) ?_
                        exact r_sub [1, 2, 3, 4, 5, 6, 7, 0] rfl (ih _ _ _ hF)
                      refine r_if_ne (tgt := 126) C dX12_findPlan_60 (by decide) hF (fun hF => ?_) (fun hF => ?_)
                      · exact Jk126_65 _ _ hF
                      · refine r_aload_n C dX12_findPlan_63 rfl 0 rfl ?_
                        refine r_iload_n C dX12_findPlan_64 rfl 1 rfl ?_
                        refine r_iload C dX12_findPlan_65 5 rfl ?_
                        refine r_iload C dX12_findPlan_67 7 rfl ?_
                        obtain ⟨ht, hF⟩ := tst_some hF
                        obtain ⟨r68, h69, hc70, hF⟩ := cl_some hF
                        refine r_callV (As := [.int a1, .int v50, .int v62]) C dX12_findPlan_69 V hT cal_X12_between cls_13 ml_X12_253 im_X12_between se_X12_between ht (by decide) rfl rfl (Nat.le_of_ble_eq_true rfl) (by decide) (by decide) (S_X12_between _ _ hc70) ?_
                        refine r_aload_n C dX12_findPlan_72 rfl 0 rfl ?_
                        refine k_gR C dX12_findPlan_73 fd_X12_96 (by decide) hF (fun x71 hF => ?_)
                        refine r_bipush (v := 8) C dX12_findPlan_76 (by decide) ?_
                        refine r_iload C dX12_findPlan_78 4 rfl ?_
                        refine r_iconst (v := 1) C dX12_findPlan_80 (by decide) ?_
                        refine r_iload C dX12_findPlan_81 7 rfl ?_
                        refine r_ishl C dX12_findPlan_83 ?_
                        refine r_ior C dX12_findPlan_84 ?_
                        refine r_imul C dX12_findPlan_85 ?_
                        refine r_iload C dX12_findPlan_86 7 rfl ?_
                        refine r_iadd C dX12_findPlan_88 ?_
                        refine k_aI C dX12_findPlan_89 hF (fun x72 hF => ?_)
                        refine r_iadd C dX12_findPlan_90 ?_
                        refine r_iload C dX12_findPlan_91 6 rfl ?_
                        refine r_icmp_ge (tgt := 126) C dX12_findPlan_93 (by decide) hF (fun hF => ?_) (fun hF => ?_)
                        · exact Jk126_65 _ _ hF
                        · refine r_aload_n C dX12_findPlan_96 rfl 0 rfl ?_
                          refine r_iload_n C dX12_findPlan_97 rfl 1 rfl ?_
                          refine r_iload C dX12_findPlan_98 5 rfl ?_
                          refine r_iload C dX12_findPlan_100 7 rfl ?_
                          obtain ⟨ht, hF⟩ := tst_some hF
                          obtain ⟨r73, h74, hc75, hF⟩ := cl_some hF
                          refine r_callV (As := [.int a1, .int v50, .int v62]) C dX12_findPlan_102 V hT cal_X12_between cls_13 ml_X12_253 im_X12_between se_X12_between ht (by decide) rfl rfl (Nat.le_of_ble_eq_true rfl) (by decide) (by decide) (S_X12_between _ _ hc75) ?_
                          refine r_aload_n C dX12_findPlan_105 rfl 0 rfl ?_
                          refine k_gR C dX12_findPlan_106 fd_X12_96 (by decide) hF (fun x76 hF => ?_)
                          refine r_bipush (v := 8) C dX12_findPlan_109 (by decide) ?_
                          refine r_iload C dX12_findPlan_111 4 rfl ?_
                          refine r_iconst (v := 1) C dX12_findPlan_113 (by decide) ?_
                          refine r_iload C dX12_findPlan_114 7 rfl ?_
                          refine r_ishl C dX12_findPlan_116 ?_
                          refine r_ior C dX12_findPlan_117 ?_
                          refine r_imul C dX12_findPlan_118 ?_
                          refine r_iload C dX12_findPlan_119 7 rfl ?_
                          refine r_iadd C dX12_findPlan_121 ?_
                          refine k_aI C dX12_findPlan_122 hF (fun x77 hF => ?_)
                          refine r_iadd C dX12_findPlan_123 ?_
                          refine k_lti hF (fun x78 hF => ?_)
                          refine r_istore C dX12_findPlan_124 (by decide) rfl ?_
                          exact r_sub [1, 2, 3, 4, 5, 6, 0, 7] rfl (Jk126_65 _ _ hF)
                exact r_sub [2, 3, 4, 5, 6, 7, 1, 0] rfl (L47_79 _ _ _ _ hF)
              refine r_icmp_ne (tgt := 40) C dX12_findPlan_33 (by decide) hF (fun hF => ?_) (fun hF => ?_)
              · refine r_ldc C dX12_findPlan_40 ct_X12_252 ?_
                exact Jk42_53 _ _ hF
              · refine r_iconst (v := 0) C dX12_findPlan_36 (by decide) ?_
                refine r_goto (tgt := 42) C dX12_findPlan_37 (by decide) ?_
                exact Jk42_53 _ _ hF
        exact r_sub [1, 2, 3, 4, 5, 0] rfl (L24_80 _ _ _ hF)
  exact r_sub [3, 4, 2, 1, 0] rfl (L16 _ _ _ hF)
def F_X12_round (a0 : Nat) (a1 : Int32) (h0 : PM) : Option (Int32 × PM) := pI h0 a0 13 0 0 fun h1 => tst h1 a0 13 (cl (F_X12_isStone a0 a1 h1) fun r2 h3 => if ¬ r2 = 0 then (tst h3 a0 13 (cl (F_X12_findPlan a0 a1 h3) fun r5 h6 => some (r5, h6))) else (some (0, h3)))
set_option maxRecDepth 100000 in
set_option maxHeartbeats 4000000 in
theorem S_X12_round {a0 : Nat} {a1 : Int32} {h0 : PM} (r : Int32) (h' : PM) (hF : F_X12_round a0 a1 h0 = some (r, h')) : CN yX12_round cX12_round 2 (some .int) 0 0 4 [.ref a0, .int a1] h0 (some (.int r)) h' := by
  obtain ⟨X, eX⟩ : ∃ X, X = (r, h') := ⟨_, rfl⟩
  rw [← eX] at hF
  have e1 : r = X.1 := by rw [eX]
  have e2 : h' = X.2 := by rw [eX]
  rw [e1, e2]
  clear eX e1 e2
  unfold F_X12_round at hF
  refine CN_of (by decide) (fun ρ => Nat.le_of_ble_eq_true rfl) rfl ?_
  intro p l e s m args below meth c D cy base ρ hT C V hr hnm
  refine r_aload_n C dX12_round_0 rfl 0 rfl ?_
  refine r_iconst (v := 0) C dX12_round_1 (by decide) ?_
  refine k_pI C dX12_round_2 fd_X12_1 (fun z => by cases z) (by decide) hF (fun h1 hF => ?_)
  refine r_aload_n C dX12_round_5 rfl 0 rfl ?_
  refine r_iload_n C dX12_round_6 rfl 1 rfl ?_
  obtain ⟨ht, hF⟩ := tst_some hF
  obtain ⟨r2, h3, hc4, hF⟩ := cl_some hF
  refine r_callV (As := [.int a1]) C dX12_round_7 V hT cal_X12_isStone cls_13 ml_X12_242 im_X12_isStone se_X12_isStone ht (by decide) rfl rfl (Nat.le_of_ble_eq_true rfl) (by decide) (by decide) (S_X12_isStone _ _ hc4) ?_
  refine r_if_ne (tgt := 15) C dX12_round_10 (by decide) hF (fun hF => ?_) (fun hF => ?_)
  · refine r_aload_n C dX12_round_15 rfl 0 rfl ?_
    refine r_iload_n C dX12_round_16 rfl 1 rfl ?_
    obtain ⟨ht, hF⟩ := tst_some hF
    obtain ⟨r5, h6, hc7, hF⟩ := cl_some hF
    refine r_callV (As := [.int a1]) C dX12_round_17 V hT cal_X12_findPlan cls_13 ml_X12_259 im_X12_findPlan se_X12_findPlan ht (by decide) rfl rfl (Nat.le_of_ble_eq_true rfl) (by decide) (by decide) (S_X12_findPlan _ _ hc7) ?_
    exact k_iret C dX12_round_20 hr (by decide) (by decide) hF
  · refine r_iconst (v := 0) C dX12_round_13 (by decide) ?_
    exact k_iret C dX12_round_14 hr (by decide) (by decide) hF
def F_X12_plan (a0 : Nat) (a1 : Int32) (a2 : Int32) (h0 : PM) : Option (Int32 × PM) := pI h0 a0 13 0 0 fun h1 => tst h1 a0 13 (cl (F_X12_isStone a0 a1 h1) fun r2 h3 => if ¬ r2 = 0 then (tst h3 a0 13 (cl (F_X12_findPlan a0 a1 h3) fun r5 h6 => gR h6 a0 13 36 fun x8 => aI h6 x8 a1 fun x9 => cl (F_X12_within a2 0 (x9 - 1) h6) fun r10 h11 => jn (fun (s13 : Int32) (h14 : PM) => some (s13, h14)) fun k47 => if r10 = 0 then (k47 (-1) h11) else (gR h11 a0 13 44 fun x15 => aI h11 x15 a2 fun x16 => k47 x16 h11))) else (some (0, h3)))
set_option maxRecDepth 100000 in
set_option maxHeartbeats 4000000 in
theorem S_X12_plan {a0 : Nat} {a1 : Int32} {a2 : Int32} {h0 : PM} (r : Int32) (h' : PM) (hF : F_X12_plan a0 a1 a2 h0 = some (r, h')) : CN yX12_plan cX12_plan 3 (some .int) 0 0 4 [.ref a0, .int a1, .int a2] h0 (some (.int r)) h' := by
  obtain ⟨X, eX⟩ : ∃ X, X = (r, h') := ⟨_, rfl⟩
  rw [← eX] at hF
  have e1 : r = X.1 := by rw [eX]
  have e2 : h' = X.2 := by rw [eX]
  rw [e1, e2]
  clear eX e1 e2
  unfold F_X12_plan at hF
  refine CN_of (by decide) (fun ρ => Nat.le_of_ble_eq_true rfl) rfl ?_
  intro p l e s m args below meth c D cy base ρ hT C V hr hnm
  refine r_aload_n C dX12_plan_0 rfl 0 rfl ?_
  refine r_iconst (v := 0) C dX12_plan_1 (by decide) ?_
  refine k_pI C dX12_plan_2 fd_X12_1 (fun z => by cases z) (by decide) hF (fun h1 hF => ?_)
  refine r_aload_n C dX12_plan_5 rfl 0 rfl ?_
  refine r_iload_n C dX12_plan_6 rfl 1 rfl ?_
  obtain ⟨ht, hF⟩ := tst_some hF
  obtain ⟨r2, h3, hc4, hF⟩ := cl_some hF
  refine r_callV (As := [.int a1]) C dX12_plan_7 V hT cal_X12_isStone cls_13 ml_X12_242 im_X12_isStone se_X12_isStone ht (by decide) rfl rfl (Nat.le_of_ble_eq_true rfl) (by decide) (by decide) (S_X12_isStone _ _ hc4) ?_
  refine r_if_ne (tgt := 15) C dX12_plan_10 (by decide) hF (fun hF => ?_) (fun hF => ?_)
  · refine r_aload_n C dX12_plan_15 rfl 0 rfl ?_
    refine r_iload_n C dX12_plan_16 rfl 1 rfl ?_
    obtain ⟨ht, hF⟩ := tst_some hF
    obtain ⟨r5, h6, hc7, hF⟩ := cl_some hF
    refine r_callV (As := [.int a1]) C dX12_plan_17 V hT cal_X12_findPlan cls_13 ml_X12_259 im_X12_findPlan se_X12_findPlan ht (by decide) rfl rfl (Nat.le_of_ble_eq_true rfl) (by decide) (by decide) (S_X12_findPlan _ _ hc7) ?_
    refine r_pop C dX12_plan_20 rfl ?_
    refine r_iload_n C dX12_plan_21 rfl 2 rfl ?_
    refine r_iconst (v := 0) C dX12_plan_22 (by decide) ?_
    refine r_aload_n C dX12_plan_23 rfl 0 rfl ?_
    refine k_gR C dX12_plan_24 fd_X12_74 (by decide) hF (fun x8 hF => ?_)
    refine r_iload_n C dX12_plan_27 rfl 1 rfl ?_
    refine k_aI C dX12_plan_28 hF (fun x9 hF => ?_)
    refine r_iconst (v := 1) C dX12_plan_29 (by decide) ?_
    refine r_isub C dX12_plan_30 ?_
    obtain ⟨r10, h11, hc12, hF⟩ := cl_some hF
    refine r_callS (As := [.int a2, .int 0, .int (x9 - 1)]) C dX12_plan_31 V hT cal_X12_within ml_X12_129 sm_X12_within (by decide) rfl rfl (Nat.le_of_ble_eq_true rfl) (by decide) (by decide) (S_X12_within _ _ hc12) ?_
    obtain ⟨k47, ek47, hF⟩ := jn_some hF
    have Jk47 : ∀ (s13 : Int32) (h14 : PM), k47 s13 h14 = some X → WP p l e (rmN 0 0 4) s m args below meth c D cy base ρ h0 0 0 3 (MQ below (QR D cy base ρ h0 (some (.int X.1)) X.2) args s 0 0 (fun q => base ≤ q)) 47 [] [.int s13] h14 := by
      intro s13 h14 hF
      rw [ek47] at hF
      exact k_iret C dX12_plan_47 hr (by decide) (by decide) hF
    refine r_if_eq (tgt := 46) C dX12_plan_34 (by decide) hF (fun hF => ?_) (fun hF => ?_)
    · refine r_iconst (v := (-1)) C dX12_plan_46 (by decide) ?_
      exact r_sub [] rfl (Jk47 _ _ hF)
    · refine r_aload_n C dX12_plan_37 rfl 0 rfl ?_
      refine k_gR C dX12_plan_38 fd_X12_99 (by decide) hF (fun x15 hF => ?_)
      refine r_iload_n C dX12_plan_41 rfl 2 rfl ?_
      refine k_aI C dX12_plan_42 hF (fun x16 hF => ?_)
      refine r_goto (tgt := 47) C dX12_plan_43 (by decide) ?_
      exact r_sub [] rfl (Jk47 _ _ hF)
  · refine r_iconst (v := 0) C dX12_plan_13 (by decide) ?_
    exact k_iret C dX12_plan_14 hr (by decide) (by decide) hF
def F_X12_polish_L46 (c0 : Nat) (c1 : Int32) (k105 : PM → Option (Int32 × PM)) : Nat → Int32 → PM → Option (Int32 × PM)
  | 0, _, _ => none
  | fu + 1, v17, h18 => gR h18 c0 13 36 fun x19 => aI h18 x19 c1 fun x20 => if x20 ≤ v17 then (k105 h18) else (gR h18 c0 13 33 fun x21 => aI h18 x21 c1 fun x22 => gR h18 c0 13 33 fun x23 => aI h18 x23 c1 fun x24 => gR h18 c0 13 38 fun x25 => gR h18 c0 13 44 fun x26 => aI h18 x26 v17 fun x27 => aI h18 x25 ((8 * c1) + x27) fun x28 => dv 1000 (sI h18 x21 c1 (x22 - (((x24 * (x28 + 10)) + 999) / 1000)) fun h29 => F_X12_polish_L46 c0 c1 k105 fu (v17 + 1) h29))
def F_X12_polish (a0 : Nat) (a1 : Int32) (h0 : PM) : Option (Int32 × PM) := pI h0 a0 13 0 0 fun h1 => tst h1 a0 13 (cl (F_X12_isStone a0 a1 h1) fun r2 h3 => if ¬ r2 = 0 then (gR h3 a0 13 42 fun x5 => aZ h3 x5 a1 fun x6 => if x6 = 0 then (gR h3 a0 13 36 fun x7 => aI h3 x7 a1 fun x8 => if ¬ x8 = 0 then (tst h3 a0 13 (cl (F_X12_findPlan a0 a1 h3) fun r9 h10 => jn (fun  (h12 : PM) => gR h12 a0 13 42 fun x13 => sZ h12 x13 a1 1 fun h14 => gR h14 a0 13 33 fun x15 => aI h14 x15 a1 fun x16 => some (x16, h14)) fun k105 => F_X12_polish_L46 a0 a1 k105 LF 0 h10)) else (some ((-2), h3))) else (some ((-1), h3))) else (some (0, h3)))
set_option maxRecDepth 100000 in
set_option maxHeartbeats 4000000 in
theorem S_X12_polish {a0 : Nat} {a1 : Int32} {h0 : PM} (r : Int32) (h' : PM) (hF : F_X12_polish a0 a1 h0 = some (r, h')) : CN yX12_polish cX12_polish 3 (some .int) 0 0 4 [.ref a0, .int a1] h0 (some (.int r)) h' := by
  obtain ⟨X, eX⟩ : ∃ X, X = (r, h') := ⟨_, rfl⟩
  rw [← eX] at hF
  have e1 : r = X.1 := by rw [eX]
  have e2 : h' = X.2 := by rw [eX]
  rw [e1, e2]
  clear eX e1 e2
  unfold F_X12_polish at hF
  refine CN_of (by decide) (fun ρ => Nat.le_of_ble_eq_true rfl) rfl ?_
  intro p l e s m args below meth c D cy base ρ hT C V hr hnm
  refine r_aload_n C dX12_polish_0 rfl 0 rfl ?_
  refine r_iconst (v := 0) C dX12_polish_1 (by decide) ?_
  refine k_pI C dX12_polish_2 fd_X12_1 (fun z => by cases z) (by decide) hF (fun h1 hF => ?_)
  refine r_aload_n C dX12_polish_5 rfl 0 rfl ?_
  refine r_iload_n C dX12_polish_6 rfl 1 rfl ?_
  obtain ⟨ht, hF⟩ := tst_some hF
  obtain ⟨r2, h3, hc4, hF⟩ := cl_some hF
  refine r_callV (As := [.int a1]) C dX12_polish_7 V hT cal_X12_isStone cls_13 ml_X12_242 im_X12_isStone se_X12_isStone ht (by decide) rfl rfl (Nat.le_of_ble_eq_true rfl) (by decide) (by decide) (S_X12_isStone _ _ hc4) ?_
  refine r_if_ne (tgt := 15) C dX12_polish_10 (by decide) hF (fun hF => ?_) (fun hF => ?_)
  · refine r_aload_n C dX12_polish_15 rfl 0 rfl ?_
    refine k_gR C dX12_polish_16 fd_X12_92 (by decide) hF (fun x5 hF => ?_)
    refine r_iload_n C dX12_polish_19 rfl 1 rfl ?_
    refine k_aZ C dX12_polish_20 hF (fun x6 hF => ?_)
    refine r_if_eq (tgt := 26) C dX12_polish_21 (by decide) hF (fun hF => ?_) (fun hF => ?_)
    · refine r_aload_n C dX12_polish_26 rfl 0 rfl ?_
      refine k_gR C dX12_polish_27 fd_X12_74 (by decide) hF (fun x7 hF => ?_)
      refine r_iload_n C dX12_polish_30 rfl 1 rfl ?_
      refine k_aI C dX12_polish_31 hF (fun x8 hF => ?_)
      refine r_if_ne (tgt := 38) C dX12_polish_32 (by decide) hF (fun hF => ?_) (fun hF => ?_)
      · refine r_aload_n C dX12_polish_38 rfl 0 rfl ?_
        refine r_iload_n C dX12_polish_39 rfl 1 rfl ?_
        obtain ⟨ht, hF⟩ := tst_some hF
        obtain ⟨r9, h10, hc11, hF⟩ := cl_some hF
        refine r_callV (As := [.int a1]) C dX12_polish_40 V hT cal_X12_findPlan cls_13 ml_X12_259 im_X12_findPlan se_X12_findPlan ht (by decide) rfl rfl (Nat.le_of_ble_eq_true rfl) (by decide) (by decide) (S_X12_findPlan _ _ hc11) ?_
        refine r_pop C dX12_polish_43 rfl ?_
        refine r_iconst (v := 0) C dX12_polish_44 (by decide) ?_
        refine r_istore_n C dX12_polish_45 rfl (by decide) rfl ?_
        obtain ⟨k105, ek105, hF⟩ := jn_some hF
        have Jk105 : ∀  (h12 : PM), k105 h12 = some X → WP p l e (rmN 0 0 4) s m args below meth c D cy base ρ h0 0 0 3 (MQ below (QR D cy base ρ h0 (some (.int X.1)) X.2) args s 0 0 (fun q => base ≤ q)) 105 [(0, .ref a0), (1, .int a1)] [] h12 := by
          intro h12 hF
          rw [ek105] at hF
          refine r_aload_n C dX12_polish_105 rfl 0 rfl ?_
          refine k_gR C dX12_polish_106 fd_X12_92 (by decide) hF (fun x13 hF => ?_)
          refine r_iload_n C dX12_polish_109 rfl 1 rfl ?_
          refine r_iconst (v := 1) C dX12_polish_110 (by decide) ?_
          refine k_sZ C dX12_polish_111 hF (fun h14 hF => ?_)
          refine r_aload_n C dX12_polish_112 rfl 0 rfl ?_
          refine k_gR C dX12_polish_113 fd_X12_65 (by decide) hF (fun x15 hF => ?_)
          refine r_iload_n C dX12_polish_116 rfl 1 rfl ?_
          refine k_aI C dX12_polish_117 hF (fun x16 hF => ?_)
          exact k_iret C dX12_polish_118 hr (by decide) (by decide) hF
        have L46 : ∀ (fu : Nat) (v17 : Int32) (h18 : PM), F_X12_polish_L46 a0 a1 k105 fu v17 h18 = some X → WP p l e (rmN 0 0 4) s m args below meth c D cy base ρ h0 0 0 3 (MQ below (QR D cy base ρ h0 (some (.int X.1)) X.2) args s 0 0 (fun q => base ≤ q)) 46 [(0, .ref a0), (1, .int a1), (2, .int v17)] [] h18 := by
          intro fu
          induction fu with
          | zero => intro v17 h18 hF; rw [F_X12_polish_L46.eq_1] at hF; cases hF
          | succ fu ih =>
            intro v17 h18 hF
            rw [F_X12_polish_L46.eq_2] at hF
            refine r_iload_n C dX12_polish_46 rfl 2 rfl ?_
            refine r_aload_n C dX12_polish_47 rfl 0 rfl ?_
            refine k_gR C dX12_polish_48 fd_X12_74 (by decide) hF (fun x19 hF => ?_)
            refine r_iload_n C dX12_polish_51 rfl 1 rfl ?_
            refine k_aI C dX12_polish_52 hF (fun x20 hF => ?_)
            refine r_icmp_ge (tgt := 105) C dX12_polish_53 (by decide) hF (fun hF => ?_) (fun hF => ?_)
            · exact r_sub [0, 1] rfl (Jk105  _ hF)
            · refine r_aload_n C dX12_polish_56 rfl 0 rfl ?_
              refine k_gR C dX12_polish_57 fd_X12_65 (by decide) hF (fun x21 hF => ?_)
              refine r_iload_n C dX12_polish_60 rfl 1 rfl ?_
              refine r_dup2 C dX12_polish_61 rfl rfl ?_
              refine k_aI C dX12_polish_62 hF (fun x22 hF => ?_)
              refine r_aload_n C dX12_polish_63 rfl 0 rfl ?_
              refine k_gR C dX12_polish_64 fd_X12_65 (by decide) hF (fun x23 hF => ?_)
              refine r_iload_n C dX12_polish_67 rfl 1 rfl ?_
              refine k_aI C dX12_polish_68 hF (fun x24 hF => ?_)
              refine r_aload_n C dX12_polish_69 rfl 0 rfl ?_
              refine k_gR C dX12_polish_70 fd_X12_80 (by decide) hF (fun x25 hF => ?_)
              refine r_bipush (v := 8) C dX12_polish_73 (by decide) ?_
              refine r_iload_n C dX12_polish_75 rfl 1 rfl ?_
              refine r_imul C dX12_polish_76 ?_
              refine r_aload_n C dX12_polish_77 rfl 0 rfl ?_
              refine k_gR C dX12_polish_78 fd_X12_99 (by decide) hF (fun x26 hF => ?_)
              refine r_iload_n C dX12_polish_81 rfl 2 rfl ?_
              refine k_aI C dX12_polish_82 hF (fun x27 hF => ?_)
              refine r_iadd C dX12_polish_83 ?_
              refine k_aI C dX12_polish_84 hF (fun x28 hF => ?_)
              refine r_bipush (v := 10) C dX12_polish_85 (by decide) ?_
              refine r_iadd C dX12_polish_87 ?_
              refine r_imul C dX12_polish_88 ?_
              refine r_sipush (v := 999) C dX12_polish_89 (by decide) ?_
              refine r_iadd C dX12_polish_92 ?_
              refine r_sipush (v := 1000) C dX12_polish_93 (by decide) ?_
              refine k_idiv C dX12_polish_96 hF (fun hF => ?_)
              refine r_isub C dX12_polish_97 ?_
              refine k_sI C dX12_polish_98 hF (fun h29 hF => ?_)
              refine r_iinc (v := v17 + 1) C dX12_polish_99 2 rfl (congrArg (fun z => v17 + z) (by decide)) (by decide) rfl ?_
              refine r_goto (tgt := 46) C dX12_polish_102 (by decide) ?_
              exact r_sub [1, 2, 0] rfl (ih _ _ hF)
        exact r_sub [1, 2, 0] rfl (L46 _ _ _ hF)
      · refine r_bipush (v := (-2)) C dX12_polish_35 (by decide) ?_
        exact k_iret C dX12_polish_37 hr (by decide) (by decide) hF
    · refine r_iconst (v := (-1)) C dX12_polish_24 (by decide) ?_
      exact k_iret C dX12_polish_25 hr (by decide) (by decide) hF
  · refine r_iconst (v := 0) C dX12_polish_13 (by decide) ?_
    exact k_iret C dX12_polish_14 hr (by decide) (by decide) hF
def F_X12_told (a0 : Nat) (a1 : Int32) (a2 : Int32) (h0 : PM) : Option (Int32 × PM) := pI h0 a0 13 0 0 fun h1 => tst h1 a0 13 (cl (F_X12_isStone a0 a1 h1) fun r2 h3 => jn (fun  (h5 : PM) => some (0, h5)) fun k28 => if r2 = 0 then (k28 h3) else (cl (F_X12_within a2 0 6 h3) fun r6 h7 => tst h7 a0 13 (cl (F_X12_may a0 r6 2 h7) fun r9 h10 => if ¬ r9 = 0 then (if a2 = 0 then (gR h10 a0 13 33 fun x12 => aI h10 x12 a1 fun x13 => some (x13, h10)) else (if a2 = 1 then (gR h10 a0 13 34 fun x14 => aI h10 x14 a1 fun x15 => some (x15, h10)) else (if a2 = 2 then (gR h10 a0 13 35 fun x16 => aI h10 x16 a1 fun x17 => some (x17, h10)) else (if a2 = 3 then (gR h10 a0 13 42 fun x18 => aZ h10 x18 a1 fun x19 => jn (fun (s20 : Int32) (h21 : PM) => some (s20, h21)) fun k103 => if x19 = 0 then (k103 0 h10) else (k103 1 h10)) else (if a2 = 4 then (gR h10 a0 13 39 fun x22 => aI h10 x22 a1 fun x23 => some (x23, h10)) else (if a2 = 5 then (gR h10 a0 13 40 fun x24 => aI h10 x24 a1 fun x25 => some (x25, h10)) else (gR h10 a0 13 41 fun x26 => aI h10 x26 a1 fun x27 => some (x27, h10)))))))) else (k28 h10))))
set_option maxRecDepth 100000 in
set_option maxHeartbeats 4000000 in
theorem S_X12_told {a0 : Nat} {a1 : Int32} {a2 : Int32} {h0 : PM} (r : Int32) (h' : PM) (hF : F_X12_told a0 a1 a2 h0 = some (r, h')) : CN yX12_told cX12_told 3 (some .int) 0 0 2 [.ref a0, .int a1, .int a2] h0 (some (.int r)) h' := by
  obtain ⟨X, eX⟩ : ∃ X, X = (r, h') := ⟨_, rfl⟩
  rw [← eX] at hF
  have e1 : r = X.1 := by rw [eX]
  have e2 : h' = X.2 := by rw [eX]
  rw [e1, e2]
  clear eX e1 e2
  unfold F_X12_told at hF
  refine CN_of (by decide) (fun ρ => Nat.le_of_ble_eq_true rfl) rfl ?_
  intro p l e s m args below meth c D cy base ρ hT C V hr hnm
  refine r_aload_n C dX12_told_0 rfl 0 rfl ?_
  refine r_iconst (v := 0) C dX12_told_1 (by decide) ?_
  refine k_pI C dX12_told_2 fd_X12_1 (fun z => by cases z) (by decide) hF (fun h1 hF => ?_)
  refine r_aload_n C dX12_told_5 rfl 0 rfl ?_
  refine r_iload_n C dX12_told_6 rfl 1 rfl ?_
  obtain ⟨ht, hF⟩ := tst_some hF
  obtain ⟨r2, h3, hc4, hF⟩ := cl_some hF
  refine r_callV (As := [.int a1]) C dX12_told_7 V hT cal_X12_isStone cls_13 ml_X12_242 im_X12_isStone se_X12_isStone ht (by decide) rfl rfl (Nat.le_of_ble_eq_true rfl) (by decide) (by decide) (S_X12_isStone _ _ hc4) ?_
  obtain ⟨k28, ek28, hF⟩ := jn_some hF
  have Jk28 : ∀  (h5 : PM), k28 h5 = some X → WP p l e (rmN 0 0 2) s m args below meth c D cy base ρ h0 0 0 3 (MQ below (QR D cy base ρ h0 (some (.int X.1)) X.2) args s 0 0 (fun q => base ≤ q)) 28 [] [] h5 := by
    intro h5 hF
    rw [ek28] at hF
    refine r_iconst (v := 0) C dX12_told_28 (by decide) ?_
    exact k_iret C dX12_told_29 hr (by decide) (by decide) hF
  refine r_if_eq (tgt := 28) C dX12_told_10 (by decide) hF (fun hF => ?_) (fun hF => ?_)
  · exact r_sub [] rfl (Jk28  _ hF)
  · refine r_aload_n C dX12_told_13 rfl 0 rfl ?_
    refine r_iload_n C dX12_told_14 rfl 2 rfl ?_
    refine r_iconst (v := 0) C dX12_told_15 (by decide) ?_
    refine r_bipush (v := 6) C dX12_told_16 (by decide) ?_
    obtain ⟨r6, h7, hc8, hF⟩ := cl_some hF
    refine r_callS (As := [.int a2, .int 0, .int 6]) C dX12_told_18 V hT cal_X12_within ml_X12_129 sm_X12_within (by decide) rfl rfl (Nat.le_of_ble_eq_true rfl) (by decide) (by decide) (S_X12_within _ _ hc8) ?_
    refine r_iconst (v := 2) C dX12_told_21 (by decide) ?_
    obtain ⟨ht, hF⟩ := tst_some hF
    obtain ⟨r9, h10, hc11, hF⟩ := cl_some hF
    refine r_callV (As := [.int r6, .int 2]) C dX12_told_22 V hT cal_X12_may cls_13 ml_X12_133 im_X12_may se_X12_may ht (by decide) rfl rfl (Nat.le_of_ble_eq_true rfl) (by decide) (by decide) (S_X12_may _ _ hc11) ?_
    refine r_if_ne (tgt := 30) C dX12_told_25 (by decide) hF (fun hF => ?_) (fun hF => ?_)
    · refine r_iload_n C dX12_told_30 rfl 2 rfl ?_
      by_cases q0 : a2 = 0
      · rw [if_pos q0] at hF
        refine r_tableIn (tgt := 68) C dX12_told_31 (by rw [q0]; decide) (by rw [q0]; decide) (by rw [q0] <;> rfl) (by decide) ?_
        refine r_aload_n C dX12_told_68 rfl 0 rfl ?_
        refine k_gR C dX12_told_69 fd_X12_65 (by decide) hF (fun x12 hF => ?_)
        refine r_iload_n C dX12_told_72 rfl 1 rfl ?_
        refine k_aI C dX12_told_73 hF (fun x13 hF => ?_)
        exact k_iret C dX12_told_74 hr (by decide) (by decide) hF
      rw [if_neg q0] at hF
      by_cases q1 : a2 = 1
      · rw [if_pos q1] at hF
        refine r_tableIn (tgt := 75) C dX12_told_31 (by rw [q1]; decide) (by rw [q1]; decide) (by rw [q1] <;> rfl) (by decide) ?_
        refine r_aload_n C dX12_told_75 rfl 0 rfl ?_
        refine k_gR C dX12_told_76 fd_X12_68 (by decide) hF (fun x14 hF => ?_)
        refine r_iload_n C dX12_told_79 rfl 1 rfl ?_
        refine k_aI C dX12_told_80 hF (fun x15 hF => ?_)
        exact k_iret C dX12_told_81 hr (by decide) (by decide) hF
      rw [if_neg q1] at hF
      by_cases q2 : a2 = 2
      · rw [if_pos q2] at hF
        refine r_tableIn (tgt := 82) C dX12_told_31 (by rw [q2]; decide) (by rw [q2]; decide) (by rw [q2] <;> rfl) (by decide) ?_
        refine r_aload_n C dX12_told_82 rfl 0 rfl ?_
        refine k_gR C dX12_told_83 fd_X12_71 (by decide) hF (fun x16 hF => ?_)
        refine r_iload_n C dX12_told_86 rfl 1 rfl ?_
        refine k_aI C dX12_told_87 hF (fun x17 hF => ?_)
        exact k_iret C dX12_told_88 hr (by decide) (by decide) hF
      rw [if_neg q2] at hF
      by_cases q3 : a2 = 3
      · rw [if_pos q3] at hF
        refine r_tableIn (tgt := 89) C dX12_told_31 (by rw [q3]; decide) (by rw [q3]; decide) (by rw [q3] <;> rfl) (by decide) ?_
        refine r_aload_n C dX12_told_89 rfl 0 rfl ?_
        refine k_gR C dX12_told_90 fd_X12_92 (by decide) hF (fun x18 hF => ?_)
        refine r_iload_n C dX12_told_93 rfl 1 rfl ?_
        refine k_aZ C dX12_told_94 hF (fun x19 hF => ?_)
        obtain ⟨k103, ek103, hF⟩ := jn_some hF
        have Jk103 : ∀ (s20 : Int32) (h21 : PM), k103 s20 h21 = some X → WP p l e (rmN 0 0 2) s m args below meth c D cy base ρ h0 0 0 3 (MQ below (QR D cy base ρ h0 (some (.int X.1)) X.2) args s 0 0 (fun q => base ≤ q)) 103 [] [.int s20] h21 := by
          intro s20 h21 hF
          rw [ek103] at hF
          exact k_iret C dX12_told_103 hr (by decide) (by decide) hF
        refine r_if_eq (tgt := 102) C dX12_told_95 (by decide) hF (fun hF => ?_) (fun hF => ?_)
        · refine r_iconst (v := 0) C dX12_told_102 (by decide) ?_
          exact r_sub [] rfl (Jk103 _ _ hF)
        · refine r_iconst (v := 1) C dX12_told_98 (by decide) ?_
          refine r_goto (tgt := 103) C dX12_told_99 (by decide) ?_
          exact r_sub [] rfl (Jk103 _ _ hF)
      rw [if_neg q3] at hF
      by_cases q4 : a2 = 4
      · rw [if_pos q4] at hF
        refine r_tableIn (tgt := 104) C dX12_told_31 (by rw [q4]; decide) (by rw [q4]; decide) (by rw [q4] <;> rfl) (by decide) ?_
        refine r_aload_n C dX12_told_104 rfl 0 rfl ?_
        refine k_gR C dX12_told_105 fd_X12_83 (by decide) hF (fun x22 hF => ?_)
        refine r_iload_n C dX12_told_108 rfl 1 rfl ?_
        refine k_aI C dX12_told_109 hF (fun x23 hF => ?_)
        exact k_iret C dX12_told_110 hr (by decide) (by decide) hF
      rw [if_neg q4] at hF
      by_cases q5 : a2 = 5
      · rw [if_pos q5] at hF
        refine r_tableIn (tgt := 111) C dX12_told_31 (by rw [q5]; decide) (by rw [q5]; decide) (by rw [q5] <;> rfl) (by decide) ?_
        refine r_aload_n C dX12_told_111 rfl 0 rfl ?_
        refine k_gR C dX12_told_112 fd_X12_86 (by decide) hF (fun x24 hF => ?_)
        refine r_iload_n C dX12_told_115 rfl 1 rfl ?_
        refine k_aI C dX12_told_116 hF (fun x25 hF => ?_)
        exact k_iret C dX12_told_117 hr (by decide) (by decide) hF
      rw [if_neg q5] at hF
      refine r_tableOut (tgt := 118) C dX12_told_31 ?_ (by decide) ?_
      · have z0 := sw_ne q0; have z1 := sw_ne q1; have z2 := sw_ne q2; have z3 := sw_ne q3; have z4 := sw_ne q4; have z5 := sw_ne q5
        have w0 : ((0 : Int32)).toInt = 0 := (by decide); have w1 : ((1 : Int32)).toInt = 1 := (by decide); have w2 : ((2 : Int32)).toInt = 2 := (by decide); have w3 : ((3 : Int32)).toInt = 3 := (by decide); have w4 : ((4 : Int32)).toInt = 4 := (by decide); have w5 : ((5 : Int32)).toInt = 5 := (by decide)
        omega
      · refine r_aload_n C dX12_told_118 rfl 0 rfl ?_
        refine k_gR C dX12_told_119 fd_X12_89 (by decide) hF (fun x26 hF => ?_)
        refine r_iload_n C dX12_told_122 rfl 1 rfl ?_
        refine k_aI C dX12_told_123 hF (fun x27 hF => ?_)
        exact k_iret C dX12_told_124 hr (by decide) (by decide) hF
    · exact r_sub [] rfl (Jk28  _ hF)
def F_X12_isPair (a0 : Nat) (a1 : Int32) (a2 : Int32) (h0 : PM) : Option (Int32 × PM) := gR h0 a0 13 33 fun x1 => aI h0 x1 a1 fun x2 => gR h0 a0 13 33 fun x3 => aI h0 x3 a2 fun x4 => jn (fun (s5 : Int32) (h6 : PM) => gR h6 a0 13 33 fun x7 => aI h6 x7 a1 fun x8 => gR h6 a0 13 33 fun x9 => aI h6 x9 a2 fun x10 => cl (F_X12_off (x8 - x10) h6) fun r11 h12 => jn (fun (s14 : Int32) (h15 : PM) => rz s14 h15) fun k59 => if s5 < (10 * r11) then (k59 0 h12) else (k59 1 h12)) fun k30 => if x2 ≤ x4 then (gR h0 a0 13 33 fun x16 => aI h0 x16 a2 fun x17 => k30 x17 h0) else (gR h0 a0 13 33 fun x18 => aI h0 x18 a1 fun x19 => k30 x19 h0)
set_option maxRecDepth 100000 in
set_option maxHeartbeats 4000000 in
theorem S_X12_isPair {a0 : Nat} {a1 : Int32} {a2 : Int32} {h0 : PM} (r : Int32) (h' : PM) (hF : F_X12_isPair a0 a1 a2 h0 = some (r, h')) : CN yX12_isPair cX12_isPair 4 (some .boolean) 0 0 1 [.ref a0, .int a1, .int a2] h0 (some (.int r)) h' := by
  obtain ⟨X, eX⟩ : ∃ X, X = (r, h') := ⟨_, rfl⟩
  rw [← eX] at hF
  have e1 : r = X.1 := by rw [eX]
  have e2 : h' = X.2 := by rw [eX]
  rw [e1, e2]
  clear eX e1 e2
  unfold F_X12_isPair at hF
  refine CN_of (by decide) (fun ρ => Nat.le_of_ble_eq_true rfl) rfl ?_
  intro p l e s m args below meth c D cy base ρ hT C V hr hnm
  refine r_aload_n C dX12_isPair_0 rfl 0 rfl ?_
  refine k_gR C dX12_isPair_1 fd_X12_65 (by decide) hF (fun x1 hF => ?_)
  refine r_iload_n C dX12_isPair_4 rfl 1 rfl ?_
  refine k_aI C dX12_isPair_5 hF (fun x2 hF => ?_)
  refine r_aload_n C dX12_isPair_6 rfl 0 rfl ?_
  refine k_gR C dX12_isPair_7 fd_X12_65 (by decide) hF (fun x3 hF => ?_)
  refine r_iload_n C dX12_isPair_10 rfl 2 rfl ?_
  refine k_aI C dX12_isPair_11 hF (fun x4 hF => ?_)
  obtain ⟨k30, ek30, hF⟩ := jn_some hF
  have Jk30 : ∀ (s5 : Int32) (h6 : PM), k30 s5 h6 = some X → WP p l e (rmN 0 0 1) s m args below meth c D cy base ρ h0 0 0 4 (MQ below (QR D cy base ρ h0 (some (.int X.1)) X.2) args s 0 0 (fun q => base ≤ q)) 30 [(0, .ref a0), (1, .int a1), (2, .int a2)] [.int s5] h6 := by
    intro s5 h6 hF
    rw [ek30] at hF
    refine r_istore_n C dX12_isPair_30 rfl (by decide) rfl ?_
    refine r_bipush (v := 10) C dX12_isPair_31 (by decide) ?_
    refine r_aload_n C dX12_isPair_33 rfl 1 rfl ?_
    refine k_gR C dX12_isPair_34 fd_X12_65 (by decide) hF (fun x7 hF => ?_)
    refine r_iload_n C dX12_isPair_37 rfl 2 rfl ?_
    refine k_aI C dX12_isPair_38 hF (fun x8 hF => ?_)
    refine r_aload_n C dX12_isPair_39 rfl 1 rfl ?_
    refine k_gR C dX12_isPair_40 fd_X12_65 (by decide) hF (fun x9 hF => ?_)
    refine r_iload_n C dX12_isPair_43 rfl 3 rfl ?_
    refine k_aI C dX12_isPair_44 hF (fun x10 hF => ?_)
    refine r_isub C dX12_isPair_45 ?_
    obtain ⟨r11, h12, hc13, hF⟩ := cl_some hF
    refine r_callS (As := [.int (x8 - x10)]) C dX12_isPair_46 V hT cal_X12_off ml_X12_245 sm_X12_off (by decide) rfl rfl (Nat.le_of_ble_eq_true rfl) (by decide) (by decide) (S_X12_off _ _ hc13) ?_
    refine r_imul C dX12_isPair_49 ?_
    refine r_iload_n C dX12_isPair_50 rfl 0 rfl ?_
    obtain ⟨k59, ek59, hF⟩ := jn_some hF
    have Jk59 : ∀ (s14 : Int32) (h15 : PM), k59 s14 h15 = some X → WP p l e (rmN 0 0 1) s m args below meth c D cy base ρ h0 0 0 4 (MQ below (QR D cy base ρ h0 (some (.int X.1)) X.2) args s 0 0 (fun q => base ≤ q)) 59 [] [.int s14] h15 := by
      intro s14 h15 hF
      rw [ek59] at hF
      exact k_zret C dX12_isPair_59 hr (by decide) (by decide) hF
    refine r_icmp_gt (tgt := 58) C dX12_isPair_51 (by decide) hF (fun hF => ?_) (fun hF => ?_)
    · refine r_iconst (v := 0) C dX12_isPair_58 (by decide) ?_
      exact r_sub [] rfl (Jk59 _ _ hF)
    · refine r_iconst (v := 1) C dX12_isPair_54 (by decide) ?_
      refine r_goto (tgt := 59) C dX12_isPair_55 (by decide) ?_
      exact r_sub [] rfl (Jk59 _ _ hF)
  refine r_icmp_le (tgt := 24) C dX12_isPair_12 (by decide) hF (fun hF => ?_) (fun hF => ?_)
  · refine r_aload_n C dX12_isPair_24 rfl 0 rfl ?_
    refine k_gR C dX12_isPair_25 fd_X12_65 (by decide) hF (fun x16 hF => ?_)
    refine r_iload_n C dX12_isPair_28 rfl 2 rfl ?_
    refine k_aI C dX12_isPair_29 hF (fun x17 hF => ?_)
    exact Jk30 _ _ hF
  · refine r_aload_n C dX12_isPair_15 rfl 0 rfl ?_
    refine k_gR C dX12_isPair_16 fd_X12_65 (by decide) hF (fun x18 hF => ?_)
    refine r_iload_n C dX12_isPair_19 rfl 1 rfl ?_
    refine k_aI C dX12_isPair_20 hF (fun x19 hF => ?_)
    refine r_goto (tgt := 30) C dX12_isPair_21 (by decide) ?_
    exact Jk30 _ _ hF
def F_X12_isAhead_L2 (c0 : Nat) (k75 : PM → Option (Int32 × PM)) (k28 : Int32 → PM → Option (Int32 × PM)) : Nat → Int32 → PM → Option (Int32 × PM)
  | 0, _, _ => none
  | fu + 1, v16, h17 => gI h17 c0 13 45 fun x18 => if x18 ≤ v16 then (k75 h17) else (gR h17 c0 13 49 fun x19 => aI h17 x19 v16 fun x20 => gR h17 c0 13 50 fun x21 => aI h17 x21 v16 fun x22 => if ¬ x20 = x22 then (k28 v16 h17) else (F_X12_isAhead_L2 c0 k75 k28 fu (v16 + 1) h17))
def F_X12_isAhead (a0 : Nat) (h0 : PM) : Option (Int32 × PM) := jn (fun  (h1 : PM) => rz 0 h1) fun k75 => jn (fun (v2 : Int32) (h3 : PM) => gR h3 a0 13 49 fun x4 => aI h3 x4 v2 fun x5 => jn (fun (s6 : Int32) (h7 : PM) => rz s6 h7) fun k68 => jn (fun  (h8 : PM) => k68 0 h8) fun k67 => if x5 = (-1) then (k67 h3) else (gR h3 a0 13 50 fun x9 => aI h3 x9 v2 fun x10 => jn (fun  (h11 : PM) => k68 1 h11) fun k63 => if x10 = (-1) then (k63 h3) else (gR h3 a0 13 49 fun x12 => aI h3 x12 v2 fun x13 => gR h3 a0 13 50 fun x14 => aI h3 x14 v2 fun x15 => if x15 ≤ x13 then (k67 h3) else (k63 h3)))) fun k28 => F_X12_isAhead_L2 a0 k75 k28 LF 0 h0
set_option maxRecDepth 100000 in
set_option maxHeartbeats 4000000 in
theorem S_X12_isAhead {a0 : Nat} {h0 : PM} (r : Int32) (h' : PM) (hF : F_X12_isAhead a0 h0 = some (r, h')) : CN yX12_isAhead cX12_isAhead 2 (some .boolean) 0 0 0 [.ref a0] h0 (some (.int r)) h' := by
  obtain ⟨X, eX⟩ : ∃ X, X = (r, h') := ⟨_, rfl⟩
  rw [← eX] at hF
  have e1 : r = X.1 := by rw [eX]
  have e2 : h' = X.2 := by rw [eX]
  rw [e1, e2]
  clear eX e1 e2
  unfold F_X12_isAhead at hF
  refine CN_of (by decide) (fun ρ => Nat.le_of_ble_eq_true rfl) rfl ?_
  intro p l e s m args below meth c D cy base ρ hT C V hr hnm
  refine r_iconst (v := 0) C dX12_isAhead_0 (by decide) ?_
  refine r_istore_n C dX12_isAhead_1 rfl (by decide) rfl ?_
  obtain ⟨k75, ek75, hF⟩ := jn_some hF
  have Jk75 : ∀  (h1 : PM), k75 h1 = some X → WP p l e (rmN 0 0 0) s m args below meth c D cy base ρ h0 0 0 2 (MQ below (QR D cy base ρ h0 (some (.int X.1)) X.2) args s 0 0 (fun q => base ≤ q)) 75 [] [] h1 := by
    intro h1 hF
    rw [ek75] at hF
    refine r_iconst (v := 0) C dX12_isAhead_75 (by decide) ?_
    exact k_zret C dX12_isAhead_76 hr (by decide) (by decide) hF
  obtain ⟨k28, ek28, hF⟩ := jn_some hF
  have Jk28 : ∀ (v2 : Int32) (h3 : PM), k28 v2 h3 = some X → WP p l e (rmN 0 0 0) s m args below meth c D cy base ρ h0 0 0 2 (MQ below (QR D cy base ρ h0 (some (.int X.1)) X.2) args s 0 0 (fun q => base ≤ q)) 28 [(0, .ref a0), (1, .int v2)] [] h3 := by
    intro v2 h3 hF
    rw [ek28] at hF
    refine r_aload_n C dX12_isAhead_28 rfl 0 rfl ?_
    refine k_gR C dX12_isAhead_29 fd_X12_105 (by decide) hF (fun x4 hF => ?_)
    refine r_iload_n C dX12_isAhead_32 rfl 1 rfl ?_
    refine k_aI C dX12_isAhead_33 hF (fun x5 hF => ?_)
    refine r_iconst (v := (-1)) C dX12_isAhead_34 (by decide) ?_
    obtain ⟨k68, ek68, hF⟩ := jn_some hF
    have Jk68 : ∀ (s6 : Int32) (h7 : PM), k68 s6 h7 = some X → WP p l e (rmN 0 0 0) s m args below meth c D cy base ρ h0 0 0 2 (MQ below (QR D cy base ρ h0 (some (.int X.1)) X.2) args s 0 0 (fun q => base ≤ q)) 68 [] [.int s6] h7 := by
      intro s6 h7 hF
      rw [ek68] at hF
      exact k_zret C dX12_isAhead_68 hr (by decide) (by decide) hF
    obtain ⟨k67, ek67, hF⟩ := jn_some hF
    have Jk67 : ∀  (h8 : PM), k67 h8 = some X → WP p l e (rmN 0 0 0) s m args below meth c D cy base ρ h0 0 0 2 (MQ below (QR D cy base ρ h0 (some (.int X.1)) X.2) args s 0 0 (fun q => base ≤ q)) 67 [] [] h8 := by
      intro h8 hF
      rw [ek67] at hF
      refine r_iconst (v := 0) C dX12_isAhead_67 (by decide) ?_
      exact Jk68 _ _ hF
    refine r_icmp_eq (tgt := 67) C dX12_isAhead_35 (by decide) hF (fun hF => ?_) (fun hF => ?_)
    · exact r_sub [] rfl (Jk67  _ hF)
    · refine r_aload_n C dX12_isAhead_38 rfl 0 rfl ?_
      refine k_gR C dX12_isAhead_39 fd_X12_108 (by decide) hF (fun x9 hF => ?_)
      refine r_iload_n C dX12_isAhead_42 rfl 1 rfl ?_
      refine k_aI C dX12_isAhead_43 hF (fun x10 hF => ?_)
      refine r_iconst (v := (-1)) C dX12_isAhead_44 (by decide) ?_
      obtain ⟨k63, ek63, hF⟩ := jn_some hF
      have Jk63 : ∀  (h11 : PM), k63 h11 = some X → WP p l e (rmN 0 0 0) s m args below meth c D cy base ρ h0 0 0 2 (MQ below (QR D cy base ρ h0 (some (.int X.1)) X.2) args s 0 0 (fun q => base ≤ q)) 63 [] [] h11 := by
        intro h11 hF
        rw [ek63] at hF
        refine r_iconst (v := 1) C dX12_isAhead_63 (by decide) ?_
        refine r_goto (tgt := 68) C dX12_isAhead_64 (by decide) ?_
        exact Jk68 _ _ hF
      refine r_icmp_eq (tgt := 63) C dX12_isAhead_45 (by decide) hF (fun hF => ?_) (fun hF => ?_)
      · exact r_sub [] rfl (Jk63  _ hF)
      · refine r_aload_n C dX12_isAhead_48 rfl 0 rfl ?_
        refine k_gR C dX12_isAhead_49 fd_X12_105 (by decide) hF (fun x12 hF => ?_)
        refine r_iload_n C dX12_isAhead_52 rfl 1 rfl ?_
        refine k_aI C dX12_isAhead_53 hF (fun x13 hF => ?_)
        refine r_aload_n C dX12_isAhead_54 rfl 0 rfl ?_
        refine k_gR C dX12_isAhead_55 fd_X12_108 (by decide) hF (fun x14 hF => ?_)
        refine r_iload_n C dX12_isAhead_58 rfl 1 rfl ?_
        refine k_aI C dX12_isAhead_59 hF (fun x15 hF => ?_)
        refine r_icmp_ge (tgt := 67) C dX12_isAhead_60 (by decide) hF (fun hF => ?_) (fun hF => ?_)
        · exact r_sub [] rfl (Jk67  _ hF)
        · exact r_sub [] rfl (Jk63  _ hF)
  have L2 : ∀ (fu : Nat) (v16 : Int32) (h17 : PM), F_X12_isAhead_L2 a0 k75 k28 fu v16 h17 = some X → WP p l e (rmN 0 0 0) s m args below meth c D cy base ρ h0 0 0 2 (MQ below (QR D cy base ρ h0 (some (.int X.1)) X.2) args s 0 0 (fun q => base ≤ q)) 2 [(0, .ref a0), (1, .int v16)] [] h17 := by
    intro fu
    induction fu with
    | zero => intro v16 h17 hF; rw [F_X12_isAhead_L2.eq_1] at hF; cases hF
    | succ fu ih =>
      intro v16 h17 hF
      rw [F_X12_isAhead_L2.eq_2] at hF
      refine r_iload_n C dX12_isAhead_2 rfl 1 rfl ?_
      refine r_aload_n C dX12_isAhead_3 rfl 0 rfl ?_
      refine k_gI C dX12_isAhead_4 fd_X12_262 (by decide) hF (fun x18 hF => ?_)
      refine r_icmp_ge (tgt := 75) C dX12_isAhead_7 (by decide) hF (fun hF => ?_) (fun hF => ?_)
      · exact r_sub [] rfl (Jk75  _ hF)
      · refine r_aload_n C dX12_isAhead_10 rfl 0 rfl ?_
        refine k_gR C dX12_isAhead_11 fd_X12_105 (by decide) hF (fun x19 hF => ?_)
        refine r_iload_n C dX12_isAhead_14 rfl 1 rfl ?_
        refine k_aI C dX12_isAhead_15 hF (fun x20 hF => ?_)
        refine r_aload_n C dX12_isAhead_16 rfl 0 rfl ?_
        refine k_gR C dX12_isAhead_17 fd_X12_108 (by decide) hF (fun x21 hF => ?_)
        refine r_iload_n C dX12_isAhead_20 rfl 1 rfl ?_
        refine k_aI C dX12_isAhead_21 hF (fun x22 hF => ?_)
        refine r_icmp_ne (tgt := 28) C dX12_isAhead_22 (by decide) hF (fun hF => ?_) (fun hF => ?_)
        · exact Jk28 _ _ hF
        · refine r_goto (tgt := 69) C dX12_isAhead_25 (by decide) ?_
          refine r_iinc (v := v16 + 1) C dX12_isAhead_69 1 rfl (congrArg (fun z => v16 + z) (by decide)) (by decide) rfl ?_
          refine r_goto (tgt := 2) C dX12_isAhead_72 (by decide) ?_
          exact r_sub [1, 0] rfl (ih _ _ hF)
  exact r_sub [1, 0] rfl (L2 _ _ _ hF)
def F_X12_lot_L278 (c0 : Nat) (k305 : PM → Option (Int32 × PM)) : Nat → Int32 → PM → Option (Int32 × PM)
  | 0, _, _ => none
  | fu + 1, v27, h28 => if 4 ≤ v27 then (k305 h28) else (gR h28 c0 13 53 fun x29 => gI h28 c0 13 51 fun x30 => sI h28 x29 ((4 * x30) + v27) 0 fun h31 => F_X12_lot_L278 c0 k305 fu (v27 + 1) h31)
def F_X12_lot_L237 (c0 : Nat) (c4 : Int64) (k275 : PM → Option (Int32 × PM)) : Nat → Int32 → PM → Option (Int32 × PM)
  | 0, _, _ => none
  | fu + 1, v33, h34 => gI h34 c0 13 32 fun x35 => if x35 ≤ v33 then (k275 h34) else (jn (fun  (h36 : PM) => F_X12_lot_L237 c0 c4 k275 fu (v33 + 1) h36) fun k269 => if ¬ (lg_cmp ((c4 >>> ((Int32.toInt64 v33) &&& 63)) &&& 1) 1) = 0 then (k269 h34) else (gR h34 c0 13 40 fun x38 => gI h34 c0 13 51 fun x39 => sI h34 x38 v33 x39 fun h40 => k269 h40))
def F_X12_lot_L86 (c0 : Nat) (c4 : Int64) (k193 : Int32 → Int32 → Int32 → PM → Option (Int32 × PM)) : Nat → Int32 → Int32 → Int32 → Int32 → PM → Option (Int32 × PM)
  | 0, _, _, _, _, _ => none
  | fu + 1, v42, v43, v44, v45, h46 => gI h46 c0 13 32 fun x47 => if x47 ≤ v45 then (k193 v42 v43 v44 h46) else (jn (fun (v48 : Int32) (v49 : Int32) (v50 : Int32) (h51 : PM) => F_X12_lot_L86 c0 c4 k193 fu v48 v49 v50 (v45 + 1) h51) fun k187 => if ¬ (lg_cmp ((c4 >>> ((Int32.toInt64 v45) &&& 63)) &&& 1) 0) = 0 then (jn (fun (s54 : Int32) (h55 : PM) => jn (fun (s56 : Int32) (h57 : PM) => k187 (v42 + 1) s54 s56 h57) fun k185 => jn (fun  (h58 : PM) => k185 1 h58) fun k180 => if ¬ v44 = 0 then (k180 h55) else (gR h55 c0 13 39 fun x59 => aI h55 x59 v45 fun x60 => jn (fun  (h61 : PM) => k185 0 h61) fun k184 => if x60 = (-1) then (k184 h55) else (gR h55 c0 13 39 fun x62 => aI h55 x62 v45 fun x63 => if ¬ (lg_cmp ((c4 >>> ((Int32.toInt64 x63) &&& 63)) &&& 1) 0) = 0 then (k184 h55) else (k180 h55)))) fun k145 => jn (fun  (h64 : PM) => k145 1 h64) fun k140 => if ¬ v43 = 0 then (k140 h46) else (gR h46 c0 13 40 fun x65 => aI h46 x65 v45 fun x66 => if ¬ x66 = (-1) then (k140 h46) else (gR h46 c0 13 41 fun x67 => aI h46 x67 v45 fun x68 => if x68 = (-1) then (k145 0 h46) else (k140 h46)))) else (k187 v42 v43 v44 h46))
def F_X12_lot (a0 : Nat) (a1 : Int32) (a2 : Int32) (h0 : PM) : Option (Int32 × PM) := pI h0 a0 13 0 0 fun h1 => cl (F_X12_within a1 0 1048575 h1) fun r2 h3 => jn (fun (s5 : Int32) (h6 : PM) => lt_ (((Int32.toInt64 a2) <<< ((Int32.toInt64 20) &&& 63)) ||| (Int32.toInt64 a1)) fun x7 => jn (fun (s8 : Int32) (s9 : Nat) (h10 : PM) => tst h10 s9 13 (cl (F_X12_may s9 s8 1 h10) fun r11 h12 => if ¬ r11 = 0 then (jn (fun (v14 : Int32) (v15 : Int32) (v16 : Int32) (h17 : PM) => cl (F_X12_within v14 1 10 h17) fun r18 h19 => if ¬ r18 = 0 then (if v15 = 0 then (if v16 = 0 then (gI h19 a0 13 51 fun x21 => if ¬ x21 = 6 then (jn (fun  (h22 : PM) => jn (fun  (h23 : PM) => gI h23 a0 13 51 fun x24 => pI h23 a0 13 51 (x24 + 1) fun h25 => gI h25 a0 13 51 fun x26 => some (x26 - 1, h25)) fun k305 => F_X12_lot_L278 a0 k305 LF 0 h22) fun k275 => F_X12_lot_L237 a0 x7 k275 LF 0 h19) else (some ((-4), h19))) else (some ((-3), h19))) else (some ((-2), h19))) else (some ((-1), h19))) fun k193 => F_X12_lot_L86 a0 x7 k193 LF 0 0 0 0 h12) else (some (0, h12)))) fun k65 => jn (fun (s75 : Nat) (h76 : PM) => k65 0 s75 h76) fun k64 => if s5 = 0 then (k64 a0 h6) else (gI h6 a0 13 32 fun x77 => if ¬ (lg_cmp (x7 >>> ((Int32.toInt64 x77) &&& 63)) 0) = 0 then (k64 a0 h6) else (k65 1 a0 h6))) fun k32 => jn (fun  (h78 : PM) => k32 0 h78) fun k31 => if r2 = 0 then (k31 h3) else (cl (F_X12_within a2 0 1048575 h3) fun r79 h80 => if r79 = 0 then (k31 h80) else (k32 1 h80))
set_option maxRecDepth 100000 in
set_option maxHeartbeats 4000000 in
theorem S_X12_lot {a0 : Nat} {a1 : Int32} {a2 : Int32} {h0 : PM} (r : Int32) (h' : PM) (hF : F_X12_lot a0 a1 a2 h0 = some (r, h')) : CN yX12_lot cX12_lot 10 (some .int) 0 0 1 [.ref a0, .int a1, .int a2] h0 (some (.int r)) h' := by
  obtain ⟨X, eX⟩ : ∃ X, X = (r, h') := ⟨_, rfl⟩
  rw [← eX] at hF
  have e1 : r = X.1 := by rw [eX]
  have e2 : h' = X.2 := by rw [eX]
  rw [e1, e2]
  clear eX e1 e2
  unfold F_X12_lot at hF
  refine CN_of (by decide) (fun ρ => Nat.le_of_ble_eq_true rfl) rfl ?_
  intro p l e s m args below meth c D cy base ρ hT C V hr hnm
  refine r_aload_n C dX12_lot_0 rfl 0 rfl ?_
  refine r_iconst (v := 0) C dX12_lot_1 (by decide) ?_
  refine k_pI C dX12_lot_2 fd_X12_1 (fun z => by cases z) (by decide) hF (fun h1 hF => ?_)
  refine r_iload_n C dX12_lot_5 rfl 1 rfl ?_
  refine r_iconst (v := 0) C dX12_lot_6 (by decide) ?_
  refine r_ldcw C dX12_lot_7 ct_X12_282 ?_
  obtain ⟨r2, h3, hc4, hF⟩ := cl_some hF
  refine r_callS (As := [.int a1, .int 0, .int 1048575]) C dX12_lot_10 V hT cal_X12_within ml_X12_129 sm_X12_within (by decide) rfl rfl (Nat.le_of_ble_eq_true rfl) (by decide) (by decide) (S_X12_within _ _ hc4) ?_
  obtain ⟨k32, ek32, hF⟩ := jn_some hF
  have Jk32 : ∀ (s5 : Int32) (h6 : PM), k32 s5 h6 = some X → WP p l e (rmN 0 0 1) s m args below meth c D cy base ρ h0 0 0 10 (MQ below (QR D cy base ρ h0 (some (.int X.1)) X.2) args s 0 0 (fun q => base ≤ q)) 32 [(0, .ref a0), (1, .int a1), (2, .int a2)] [.int s5] h6 := by
    intro s5 h6 hF
    rw [ek32] at hF
    refine r_istore_n C dX12_lot_32 rfl (by decide) rfl ?_
    refine r_iload_n C dX12_lot_33 rfl 3 rfl ?_
    refine r_i2l C dX12_lot_34 ?_
    refine r_bipush (v := 20) C dX12_lot_35 (by decide) ?_
    refine r_lshl C dX12_lot_37 ?_
    refine r_iload_n C dX12_lot_38 rfl 2 rfl ?_
    refine r_i2l C dX12_lot_39 ?_
    refine r_lor C dX12_lot_40 ?_
    refine k_ltl hF (fun x7 hF => ?_)
    refine r_lstore C dX12_lot_41 (by decide) rfl ?_
    refine r_aload_n C dX12_lot_43 rfl 2 rfl ?_
    refine r_iload_n C dX12_lot_44 rfl 1 rfl ?_
    obtain ⟨k65, ek65, hF⟩ := jn_some hF
    have Jk65 : ∀ (s8 : Int32) (s9 : Nat) (h10 : PM), k65 s8 s9 h10 = some X → WP p l e (rmN 0 0 1) s m args below meth c D cy base ρ h0 0 0 10 (MQ below (QR D cy base ρ h0 (some (.int X.1)) X.2) args s 0 0 (fun q => base ≤ q)) 65 [(0, .ref a0), (4, .long x7)] [.int s8, .ref s9] h10 := by
      intro s8 s9 h10 hF
      rw [ek65] at hF
      refine r_iconst (v := 1) C dX12_lot_65 (by decide) ?_
      obtain ⟨ht, hF⟩ := tst_some hF
      obtain ⟨r11, h12, hc13, hF⟩ := cl_some hF
      refine r_callV (As := [.int s8, .int 1]) C dX12_lot_66 V hT cal_X12_may cls_13 ml_X12_133 im_X12_may se_X12_may ht (by decide) rfl rfl (Nat.le_of_ble_eq_true rfl) (by decide) (by decide) (S_X12_may _ _ hc13) ?_
      refine r_if_ne (tgt := 74) C dX12_lot_69 (by decide) hF (fun hF => ?_) (fun hF => ?_)
      · refine r_iconst (v := 0) C dX12_lot_74 (by decide) ?_
        refine r_istore C dX12_lot_75 (by decide) rfl ?_
        refine r_iconst (v := 0) C dX12_lot_77 (by decide) ?_
        refine r_istore C dX12_lot_78 (by decide) rfl ?_
        refine r_iconst (v := 0) C dX12_lot_80 (by decide) ?_
        refine r_istore C dX12_lot_81 (by decide) rfl ?_
        refine r_iconst (v := 0) C dX12_lot_83 (by decide) ?_
        refine r_istore C dX12_lot_84 (by decide) rfl ?_
        obtain ⟨k193, ek193, hF⟩ := jn_some hF
        have Jk193 : ∀ (v14 : Int32) (v15 : Int32) (v16 : Int32) (h17 : PM), k193 v14 v15 v16 h17 = some X → WP p l e (rmN 0 0 1) s m args below meth c D cy base ρ h0 0 0 10 (MQ below (QR D cy base ρ h0 (some (.int X.1)) X.2) args s 0 0 (fun q => base ≤ q)) 193 [(0, .ref a0), (4, .long x7), (6, .int v14), (7, .int v15), (8, .int v16)] [] h17 := by
          intro v14 v15 v16 h17 hF
          rw [ek193] at hF
          refine r_iload C dX12_lot_193 2 rfl ?_
          refine r_iconst (v := 1) C dX12_lot_195 (by decide) ?_
          refine r_bipush (v := 10) C dX12_lot_196 (by decide) ?_
          obtain ⟨r18, h19, hc20, hF⟩ := cl_some hF
          refine r_callS (As := [.int v14, .int 1, .int 10]) C dX12_lot_198 V hT cal_X12_within ml_X12_129 sm_X12_within (by decide) rfl rfl (Nat.le_of_ble_eq_true rfl) (by decide) (by decide) (S_X12_within _ _ hc20) ?_
          refine r_if_ne (tgt := 206) C dX12_lot_201 (by decide) hF (fun hF => ?_) (fun hF => ?_)
          · refine r_iload C dX12_lot_206 3 rfl ?_
            refine r_if_eq (tgt := 214) C dX12_lot_208 (by decide) hF (fun hF => ?_) (fun hF => ?_)
            · refine r_iload C dX12_lot_214 4 rfl ?_
              refine r_if_eq (tgt := 222) C dX12_lot_216 (by decide) hF (fun hF => ?_) (fun hF => ?_)
              · refine r_aload_n C dX12_lot_222 rfl 0 rfl ?_
                refine k_gI C dX12_lot_223 fd_X12_283 (by decide) hF (fun x21 hF => ?_)
                refine r_bipush (v := 6) C dX12_lot_226 (by decide) ?_
                refine r_icmp_ne (tgt := 234) C dX12_lot_228 (by decide) hF (fun hF => ?_) (fun hF => ?_)
                · refine r_iconst (v := 0) C dX12_lot_234 (by decide) ?_
                  refine r_istore C dX12_lot_235 (by decide) rfl ?_
                  obtain ⟨k275, ek275, hF⟩ := jn_some hF
                  have Jk275 : ∀  (h22 : PM), k275 h22 = some X → WP p l e (rmN 0 0 1) s m args below meth c D cy base ρ h0 0 0 10 (MQ below (QR D cy base ρ h0 (some (.int X.1)) X.2) args s 0 0 (fun q => base ≤ q)) 275 [(0, .ref a0)] [] h22 := by
                    intro h22 hF
                    rw [ek275] at hF
                    refine r_iconst (v := 0) C dX12_lot_275 (by decide) ?_
                    refine r_istore C dX12_lot_276 (by decide) rfl ?_
                    obtain ⟨k305, ek305, hF⟩ := jn_some hF
                    have Jk305 : ∀  (h23 : PM), k305 h23 = some X → WP p l e (rmN 0 0 1) s m args below meth c D cy base ρ h0 0 0 10 (MQ below (QR D cy base ρ h0 (some (.int X.1)) X.2) args s 0 0 (fun q => base ≤ q)) 305 [(0, .ref a0)] [] h23 := by
                      intro h23 hF
                      rw [ek305] at hF
                      refine r_aload_n C dX12_lot_305 rfl 0 rfl ?_
                      refine r_dup C dX12_lot_306 rfl ?_
                      refine k_gI C dX12_lot_307 fd_X12_283 (by decide) hF (fun x24 hF => ?_)
                      refine r_iconst (v := 1) C dX12_lot_310 (by decide) ?_
                      refine r_iadd C dX12_lot_311 ?_
                      refine k_pI C dX12_lot_312 fd_X12_283 (fun z => by cases z) (by decide) hF (fun h25 hF => ?_)
                      refine r_aload_n C dX12_lot_315 rfl 0 rfl ?_
                      refine k_gI C dX12_lot_316 fd_X12_283 (by decide) hF (fun x26 hF => ?_)
                      refine r_iconst (v := 1) C dX12_lot_319 (by decide) ?_
                      refine r_isub C dX12_lot_320 ?_
                      exact k_iret C dX12_lot_321 hr (by decide) (by decide) hF
                    have L278 : ∀ (fu : Nat) (v27 : Int32) (h28 : PM), F_X12_lot_L278 a0 k305 fu v27 h28 = some X → WP p l e (rmN 0 0 1) s m args below meth c D cy base ρ h0 0 0 10 (MQ below (QR D cy base ρ h0 (some (.int X.1)) X.2) args s 0 0 (fun q => base ≤ q)) 278 [(0, .ref a0), (9, .int v27)] [] h28 := by
                      intro fu
                      induction fu with
                      | zero => intro v27 h28 hF; rw [F_X12_lot_L278.eq_1] at hF; cases hF
                      | succ fu ih =>
                        intro v27 h28 hF
                        rw [F_X12_lot_L278.eq_2] at hF
                        refine r_iload C dX12_lot_278 1 rfl ?_
                        refine r_iconst (v := 4) C dX12_lot_280 (by decide) ?_
                        refine r_icmp_ge (tgt := 305) C dX12_lot_281 (by decide) hF (fun hF => ?_) (fun hF => ?_)
                        · exact r_sub [0] rfl (Jk305  _ hF)
                        · refine r_aload_n C dX12_lot_284 rfl 0 rfl ?_
                          refine k_gR C dX12_lot_285 fd_X12_111 (by decide) hF (fun x29 hF => ?_)
                          refine r_iconst (v := 4) C dX12_lot_288 (by decide) ?_
                          refine r_aload_n C dX12_lot_289 rfl 0 rfl ?_
                          refine k_gI C dX12_lot_290 fd_X12_283 (by decide) hF (fun x30 hF => ?_)
                          refine r_imul C dX12_lot_293 ?_
                          refine r_iload C dX12_lot_294 1 rfl ?_
                          refine r_iadd C dX12_lot_296 ?_
                          refine r_iconst (v := 0) C dX12_lot_297 (by decide) ?_
                          refine k_sI C dX12_lot_298 hF (fun h31 hF => ?_)
                          refine r_iinc (v := v27 + 1) C dX12_lot_299 1 rfl (congrArg (fun z => v27 + z) (by decide)) (by decide) rfl ?_
                          refine r_goto (tgt := 278) C dX12_lot_302 (by decide) ?_
                          exact r_sub [1, 0] rfl (ih _ _ hF)
                    exact r_sub [1, 0] rfl (L278 _ _ _ hF)
                  have L237 : ∀ (fu : Nat) (v33 : Int32) (h34 : PM), F_X12_lot_L237 a0 x7 k275 fu v33 h34 = some X → WP p l e (rmN 0 0 1) s m args below meth c D cy base ρ h0 0 0 10 (MQ below (QR D cy base ρ h0 (some (.int X.1)) X.2) args s 0 0 (fun q => base ≤ q)) 237 [(0, .ref a0), (4, .long x7), (9, .int v33)] [] h34 := by
                    intro fu
                    induction fu with
                    | zero => intro v33 h34 hF; rw [F_X12_lot_L237.eq_1] at hF; cases hF
                    | succ fu ih =>
                      intro v33 h34 hF
                      rw [F_X12_lot_L237.eq_2] at hF
                      refine r_iload C dX12_lot_237 2 rfl ?_
                      refine r_aload_n C dX12_lot_239 rfl 0 rfl ?_
                      refine k_gI C dX12_lot_240 fd_X12_239 (by decide) hF (fun x35 hF => ?_)
                      refine r_icmp_ge (tgt := 275) C dX12_lot_243 (by decide) hF (fun hF => ?_) (fun hF => ?_)
                      · exact r_sub [0] rfl (Jk275  _ hF)
                      · refine r_lload C dX12_lot_246 1 rfl ?_
                        refine r_iload C dX12_lot_248 2 rfl ?_
                        refine r_lshr C dX12_lot_250 ?_
                        refine r_lconst (v := 1) C dX12_lot_251 (by decide) ?_
                        refine r_land C dX12_lot_252 ?_
                        refine r_lconst (v := 1) C dX12_lot_253 (by decide) ?_
                        refine r_lcmp C dX12_lot_254 ?_
                        obtain ⟨k269_36, ek269_36, hF⟩ := jn_some hF
                        have Jk269_36 : ∀  (h37 : PM), k269_36 h37 = some X → WP p l e (rmN 0 0 1) s m args below meth c D cy base ρ h0 0 0 10 (MQ below (QR D cy base ρ h0 (some (.int X.1)) X.2) args s 0 0 (fun q => base ≤ q)) 269 [(0, .ref a0), (4, .long x7), (9, .int v33)] [] h37 := by
                          intro h37 hF
                          rw [ek269_36] at hF
                          refine r_iinc (v := v33 + 1) C dX12_lot_269 2 rfl (congrArg (fun z => v33 + z) (by decide)) (by decide) rfl ?_
                          refine r_goto (tgt := 237) C dX12_lot_272 (by decide) ?_
                          exact r_sub [1, 2, 0] rfl (ih _ _ hF)
                        refine r_if_ne (tgt := 269) C dX12_lot_255 (by decide) hF (fun hF => ?_) (fun hF => ?_)
                        · exact Jk269_36  _ hF
                        · refine r_aload_n C dX12_lot_258 rfl 0 rfl ?_
                          refine k_gR C dX12_lot_259 fd_X12_86 (by decide) hF (fun x39 hF => ?_)
                          refine r_iload C dX12_lot_262 2 rfl ?_
                          refine r_aload_n C dX12_lot_264 rfl 0 rfl ?_
                          refine k_gI C dX12_lot_265 fd_X12_283 (by decide) hF (fun x40 hF => ?_)
                          refine k_sI C dX12_lot_268 hF (fun h41 hF => ?_)
                          exact Jk269_36  _ hF
                  exact r_sub [1, 2, 0] rfl (L237 _ _ _ hF)
                · refine r_bipush (v := (-4)) C dX12_lot_231 (by decide) ?_
                  exact k_iret C dX12_lot_233 hr (by decide) (by decide) hF
              · refine r_bipush (v := (-3)) C dX12_lot_219 (by decide) ?_
                exact k_iret C dX12_lot_221 hr (by decide) (by decide) hF
            · refine r_bipush (v := (-2)) C dX12_lot_211 (by decide) ?_
              exact k_iret C dX12_lot_213 hr (by decide) (by decide) hF
          · refine r_iconst (v := (-1)) C dX12_lot_204 (by decide) ?_
            exact k_iret C dX12_lot_205 hr (by decide) (by decide) hF
        have L86 : ∀ (fu : Nat) (v42 : Int32) (v43 : Int32) (v44 : Int32) (v45 : Int32) (h46 : PM), F_X12_lot_L86 a0 x7 k193 fu v42 v43 v44 v45 h46 = some X → WP p l e (rmN 0 0 1) s m args below meth c D cy base ρ h0 0 0 10 (MQ below (QR D cy base ρ h0 (some (.int X.1)) X.2) args s 0 0 (fun q => base ≤ q)) 86 [(0, .ref a0), (4, .long x7), (6, .int v42), (7, .int v43), (8, .int v44), (9, .int v45)] [] h46 := by
          intro fu
          induction fu with
          | zero => intro v42 v43 v44 v45 h46 hF; rw [F_X12_lot_L86.eq_1] at hF; cases hF
          | succ fu ih =>
            intro v42 v43 v44 v45 h46 hF
            rw [F_X12_lot_L86.eq_2] at hF
            refine r_iload C dX12_lot_86 5 rfl ?_
            refine r_aload_n C dX12_lot_88 rfl 0 rfl ?_
            refine k_gI C dX12_lot_89 fd_X12_239 (by decide) hF (fun x47 hF => ?_)
            refine r_icmp_ge (tgt := 193) C dX12_lot_92 (by decide) hF (fun hF => ?_) (fun hF => ?_)
            · exact r_sub [0, 1, 2, 3, 4] rfl (Jk193 _ _ _ _ hF)
            · refine r_lload C dX12_lot_95 1 rfl ?_
              refine r_iload C dX12_lot_97 5 rfl ?_
              refine r_lshr C dX12_lot_99 ?_
              refine r_lconst (v := 1) C dX12_lot_100 (by decide) ?_
              refine r_land C dX12_lot_101 ?_
              refine r_lconst (v := 0) C dX12_lot_102 (by decide) ?_
              refine r_lcmp C dX12_lot_103 ?_
              obtain ⟨k187_51, ek187_51, hF⟩ := jn_some hF
              have Jk187_51 : ∀ (v48 : Int32) (v49 : Int32) (v50 : Int32) (h52 : PM), k187_51 v48 v49 v50 h52 = some X → WP p l e (rmN 0 0 1) s m args below meth c D cy base ρ h0 0 0 10 (MQ below (QR D cy base ρ h0 (some (.int X.1)) X.2) args s 0 0 (fun q => base ≤ q)) 187 [(0, .ref a0), (4, .long x7), (6, .int v48), (7, .int v49), (8, .int v50), (9, .int v45)] [] h52 := by
                intro v48 v49 v50 h52 hF
                rw [ek187_51] at hF
                refine r_iinc (v := v45 + 1) C dX12_lot_187 5 rfl (congrArg (fun z => v45 + z) (by decide)) (by decide) rfl ?_
                refine r_goto (tgt := 86) C dX12_lot_190 (by decide) ?_
                exact r_sub [1, 2, 3, 4, 5, 0] rfl (ih _ _ _ _ _ hF)
              refine r_if_ne (tgt := 110) C dX12_lot_104 (by decide) hF (fun hF => ?_) (fun hF => ?_)
              · refine r_iinc (v := v42 + 1) C dX12_lot_110 2 rfl (congrArg (fun z => v42 + z) (by decide)) (by decide) rfl ?_
                refine r_iload C dX12_lot_113 3 rfl ?_
                obtain ⟨k145_56, ek145_56, hF⟩ := jn_some hF
                have Jk145_56 : ∀ (s55 : Int32) (h57 : PM), k145_56 s55 h57 = some X → WP p l e (rmN 0 0 1) s m args below meth c D cy base ρ h0 0 0 10 (MQ below (QR D cy base ρ h0 (some (.int X.1)) X.2) args s 0 0 (fun q => base ≤ q)) 145 [(0, .ref a0), (4, .long x7), (6, .int (v42 + 1)), (8, .int v44), (9, .int v45)] [.int s55] h57 := by
                  intro s55 h57 hF
                  rw [ek145_56] at hF
                  refine r_istore C dX12_lot_145 (by decide) rfl ?_
                  refine r_iload C dX12_lot_147 4 rfl ?_
                  obtain ⟨k185_59, ek185_59, hF⟩ := jn_some hF
                  have Jk185_59 : ∀ (s58 : Int32) (h60 : PM), k185_59 s58 h60 = some X → WP p l e (rmN 0 0 1) s m args below meth c D cy base ρ h0 0 0 10 (MQ below (QR D cy base ρ h0 (some (.int X.1)) X.2) args s 0 0 (fun q => base ≤ q)) 185 [(0, .ref a0), (4, .long x7), (6, .int (v42 + 1)), (7, .int s55), (9, .int v45)] [.int s58] h60 := by
                    intro s58 h60 hF
                    rw [ek185_59] at hF
                    refine r_istore C dX12_lot_185 (by decide) rfl ?_
                    exact r_sub [1, 2, 3, 4, 0, 5] rfl (Jk187_51 _ _ _ _ hF)
                  obtain ⟨k180_61, ek180_61, hF⟩ := jn_some hF
                  have Jk180_61 : ∀  (h62 : PM), k180_61 h62 = some X → WP p l e (rmN 0 0 1) s m args below meth c D cy base ρ h0 0 0 10 (MQ below (QR D cy base ρ h0 (some (.int X.1)) X.2) args s 0 0 (fun q => base ≤ q)) 180 [(0, .ref a0), (4, .long x7), (6, .int (v42 + 1)), (7, .int s55), (9, .int v45)] [] h62 := by
                    intro h62 hF
                    rw [ek180_61] at hF
                    refine r_iconst (v := 1) C dX12_lot_180 (by decide) ?_
                    refine r_goto (tgt := 185) C dX12_lot_181 (by decide) ?_
                    exact Jk185_59 _ _ hF
                  refine r_if_ne (tgt := 180) C dX12_lot_149 (by decide) hF (fun hF => ?_) (fun hF => ?_)
                  · exact r_sub [1, 2, 3, 0, 5] rfl (Jk180_61  _ hF)
                  · refine r_aload_n C dX12_lot_152 rfl 1 rfl ?_
                    refine k_gR C dX12_lot_153 fd_X12_83 (by decide) hF (fun x63 hF => ?_)
                    refine r_iload C dX12_lot_156 5 rfl ?_
                    refine k_aI C dX12_lot_158 hF (fun x64 hF => ?_)
                    refine r_iconst (v := (-1)) C dX12_lot_159 (by decide) ?_
                    obtain ⟨k184_65, ek184_65, hF⟩ := jn_some hF
                    have Jk184_65 : ∀  (h66 : PM), k184_65 h66 = some X → WP p l e (rmN 0 0 1) s m args below meth c D cy base ρ h0 0 0 10 (MQ below (QR D cy base ρ h0 (some (.int X.1)) X.2) args s 0 0 (fun q => base ≤ q)) 184 [(0, .ref a0), (4, .long x7), (6, .int (v42 + 1)), (7, .int s55), (9, .int v45)] [] h66 := by
                      intro h66 hF
                      rw [ek184_65] at hF
                      refine r_iconst (v := 0) C dX12_lot_184 (by decide) ?_
                      exact Jk185_59 _ _ hF
                    refine r_icmp_eq (tgt := 184) C dX12_lot_160 (by decide) hF (fun hF => ?_) (fun hF => ?_)
                    · exact r_sub [1, 2, 3, 0, 5] rfl (Jk184_65  _ hF)
                    · refine r_lload C dX12_lot_163 2 rfl ?_
                      refine r_aload_n C dX12_lot_165 rfl 1 rfl ?_
                      refine k_gR C dX12_lot_166 fd_X12_83 (by decide) hF (fun x67 hF => ?_)
                      refine r_iload C dX12_lot_169 5 rfl ?_
                      refine k_aI C dX12_lot_171 hF (fun x68 hF => ?_)
                      refine r_lshr C dX12_lot_172 ?_
                      refine r_lconst (v := 1) C dX12_lot_173 (by decide) ?_
                      refine r_land C dX12_lot_174 ?_
                      refine r_lconst (v := 0) C dX12_lot_175 (by decide) ?_
                      refine r_lcmp C dX12_lot_176 ?_
                      refine r_if_ne (tgt := 184) C dX12_lot_177 (by decide) hF (fun hF => ?_) (fun hF => ?_)
                      · exact r_sub [1, 2, 3, 0, 5] rfl (Jk184_65  _ hF)
                      · exact r_sub [1, 2, 3, 0, 5] rfl (Jk180_61  _ hF)
                obtain ⟨k140_69, ek140_69, hF⟩ := jn_some hF
                have Jk140_69 : ∀  (h70 : PM), k140_69 h70 = some X → WP p l e (rmN 0 0 1) s m args below meth c D cy base ρ h0 0 0 10 (MQ below (QR D cy base ρ h0 (some (.int X.1)) X.2) args s 0 0 (fun q => base ≤ q)) 140 [(0, .ref a0), (4, .long x7), (6, .int (v42 + 1)), (8, .int v44), (9, .int v45)] [] h70 := by
                  intro h70 hF
                  rw [ek140_69] at hF
                  refine r_iconst (v := 1) C dX12_lot_140 (by decide) ?_
                  refine r_goto (tgt := 145) C dX12_lot_141 (by decide) ?_
                  exact Jk145_56 _ _ hF
                refine r_if_ne (tgt := 140) C dX12_lot_115 (by decide) hF (fun hF => ?_) (fun hF => ?_)
                · exact r_sub [1, 2, 0, 4, 5] rfl (Jk140_69  _ hF)
                · refine r_aload_n C dX12_lot_118 rfl 1 rfl ?_
                  refine k_gR C dX12_lot_119 fd_X12_86 (by decide) hF (fun x71 hF => ?_)
                  refine r_iload C dX12_lot_122 5 rfl ?_
                  refine k_aI C dX12_lot_124 hF (fun x72 hF => ?_)
                  refine r_iconst (v := (-1)) C dX12_lot_125 (by decide) ?_
                  refine r_icmp_ne (tgt := 140) C dX12_lot_126 (by decide) hF (fun hF => ?_) (fun hF => ?_)
                  · exact r_sub [1, 2, 0, 4, 5] rfl (Jk140_69  _ hF)
                  · refine r_aload_n C dX12_lot_129 rfl 1 rfl ?_
                    refine k_gR C dX12_lot_130 fd_X12_89 (by decide) hF (fun x73 hF => ?_)
                    refine r_iload C dX12_lot_133 5 rfl ?_
                    refine k_aI C dX12_lot_135 hF (fun x74 hF => ?_)
                    refine r_iconst (v := (-1)) C dX12_lot_136 (by decide) ?_
                    refine r_icmp_eq (tgt := 144) C dX12_lot_137 (by decide) hF (fun hF => ?_) (fun hF => ?_)
                    · refine r_iconst (v := 0) C dX12_lot_144 (by decide) ?_
                      exact r_sub [1, 2, 0, 4, 5] rfl (Jk145_56 _ _ hF)
                    · exact r_sub [1, 2, 0, 4, 5] rfl (Jk140_69  _ hF)
              · refine r_goto (tgt := 187) C dX12_lot_107 (by decide) ?_
                exact Jk187_51 _ _ _ _ hF
        exact r_sub [4, 5, 3, 2, 1, 0] rfl (L86 _ _ _ _ _ _ hF)
      · refine r_iconst (v := 0) C dX12_lot_72 (by decide) ?_
        exact k_iret C dX12_lot_73 hr (by decide) (by decide) hF
    obtain ⟨k64, ek64, hF⟩ := jn_some hF
    have Jk64 : ∀ (s75 : Nat) (h76 : PM), k64 s75 h76 = some X → WP p l e (rmN 0 0 1) s m args below meth c D cy base ρ h0 0 0 10 (MQ below (QR D cy base ρ h0 (some (.int X.1)) X.2) args s 0 0 (fun q => base ≤ q)) 64 [(0, .ref a0), (4, .long x7)] [.ref s75] h76 := by
      intro s75 h76 hF
      rw [ek64] at hF
      refine r_iconst (v := 0) C dX12_lot_64 (by decide) ?_
      exact Jk65 _ _ _ hF
    refine r_if_eq (tgt := 64) C dX12_lot_45 (by decide) hF (fun hF => ?_) (fun hF => ?_)
    · exact r_sub [2, 0] rfl (Jk64 _ _ hF)
    · refine r_lload C dX12_lot_48 0 rfl ?_
      refine r_aload_n C dX12_lot_50 rfl 2 rfl ?_
      refine k_gI C dX12_lot_51 fd_X12_239 (by decide) hF (fun x77 hF => ?_)
      refine r_lshr C dX12_lot_54 ?_
      refine r_lconst (v := 0) C dX12_lot_55 (by decide) ?_
      refine r_lcmp C dX12_lot_56 ?_
      refine r_if_ne (tgt := 64) C dX12_lot_57 (by decide) hF (fun hF => ?_) (fun hF => ?_)
      · exact r_sub [2, 0] rfl (Jk64 _ _ hF)
      · refine r_iconst (v := 1) C dX12_lot_60 (by decide) ?_
        refine r_goto (tgt := 65) C dX12_lot_61 (by decide) ?_
        exact r_sub [2, 0] rfl (Jk65 _ _ _ hF)
  obtain ⟨k31, ek31, hF⟩ := jn_some hF
  have Jk31 : ∀  (h78 : PM), k31 h78 = some X → WP p l e (rmN 0 0 1) s m args below meth c D cy base ρ h0 0 0 10 (MQ below (QR D cy base ρ h0 (some (.int X.1)) X.2) args s 0 0 (fun q => base ≤ q)) 31 [(0, .ref a0), (1, .int a1), (2, .int a2)] [] h78 := by
    intro h78 hF
    rw [ek31] at hF
    refine r_iconst (v := 0) C dX12_lot_31 (by decide) ?_
    exact Jk32 _ _ hF
  refine r_if_eq (tgt := 31) C dX12_lot_13 (by decide) hF (fun hF => ?_) (fun hF => ?_)
  · exact Jk31  _ hF
  · refine r_iload_n C dX12_lot_16 rfl 2 rfl ?_
    refine r_iconst (v := 0) C dX12_lot_17 (by decide) ?_
    refine r_ldcw C dX12_lot_18 ct_X12_282 ?_
    obtain ⟨r79, h80, hc81, hF⟩ := cl_some hF
    refine r_callS (As := [.int a2, .int 0, .int 1048575]) C dX12_lot_21 V hT cal_X12_within ml_X12_129 sm_X12_within (by decide) rfl rfl (Nat.le_of_ble_eq_true rfl) (by decide) (by decide) (S_X12_within _ _ hc81) ?_
    refine r_if_eq (tgt := 31) C dX12_lot_24 (by decide) hF (fun hF => ?_) (fun hF => ?_)
    · exact Jk31  _ hF
    · refine r_iconst (v := 1) C dX12_lot_27 (by decide) ?_
      refine r_goto (tgt := 32) C dX12_lot_28 (by decide) ?_
      exact Jk32 _ _ hF
def F_X12_bid (a0 : Nat) (a1 : Int32) (a2 : Int32) (a3 : Int32) (h0 : PM) : Option (Int32 × PM) := pI h0 a0 13 0 0 fun h1 => cl (F_X12_within a1 0 3 h1) fun r2 h3 => tst h3 a0 13 (cl (F_X12_may a0 r2 1 h3) fun r5 h6 => jn (fun  (h8 : PM) => some (0, h8)) fun k57 => if r5 = 0 then (k57 h6) else (gI h6 a0 13 51 fun x9 => cl (F_X12_within a2 0 (x9 - 1) h6) fun r10 h11 => jn (fun (s13 : Int32) (s14 : Nat) (h15 : PM) => tst h15 s14 13 (cl (F_X12_may s14 s13 2 h15) fun r16 h17 => if ¬ r16 = 0 then (gR h17 a0 13 53 fun x19 => aI h17 x19 ((4 * a2) + a1) fun x20 => if x20 ≤ 0 then (gR h17 a0 13 53 fun x21 => sI h17 x21 ((4 * a2) + a1) a3 fun h22 => some (1, h22)) else (some ((-1), h17))) else (k57 h17))) fun k50 => jn (fun (s23 : Nat) (h24 : PM) => k50 0 s23 h24) fun k49 => if r10 = 0 then (k49 a0 h11) else (cl (F_X12_within a3 1 1000000 h11) fun r25 h26 => if r25 = 0 then (k49 a0 h26) else (k50 1 a0 h26))))
set_option maxRecDepth 100000 in
set_option maxHeartbeats 4000000 in
theorem S_X12_bid {a0 : Nat} {a1 : Int32} {a2 : Int32} {a3 : Int32} {h0 : PM} (r : Int32) (h' : PM) (hF : F_X12_bid a0 a1 a2 a3 h0 = some (r, h')) : CN yX12_bid cX12_bid 4 (some .int) 0 0 1 [.ref a0, .int a1, .int a2, .int a3] h0 (some (.int r)) h' := by
  obtain ⟨X, eX⟩ : ∃ X, X = (r, h') := ⟨_, rfl⟩
  rw [← eX] at hF
  have e1 : r = X.1 := by rw [eX]
  have e2 : h' = X.2 := by rw [eX]
  rw [e1, e2]
  clear eX e1 e2
  unfold F_X12_bid at hF
  refine CN_of (by decide) (fun ρ => Nat.le_of_ble_eq_true rfl) rfl ?_
  intro p l e s m args below meth c D cy base ρ hT C V hr hnm
  refine r_aload_n C dX12_bid_0 rfl 0 rfl ?_
  refine r_iconst (v := 0) C dX12_bid_1 (by decide) ?_
  refine k_pI C dX12_bid_2 fd_X12_1 (fun z => by cases z) (by decide) hF (fun h1 hF => ?_)
  refine r_aload_n C dX12_bid_5 rfl 0 rfl ?_
  refine r_iload_n C dX12_bid_6 rfl 1 rfl ?_
  refine r_iconst (v := 0) C dX12_bid_7 (by decide) ?_
  refine r_iconst (v := 3) C dX12_bid_8 (by decide) ?_
  obtain ⟨r2, h3, hc4, hF⟩ := cl_some hF
  refine r_callS (As := [.int a1, .int 0, .int 3]) C dX12_bid_9 V hT cal_X12_within ml_X12_129 sm_X12_within (by decide) rfl rfl (Nat.le_of_ble_eq_true rfl) (by decide) (by decide) (S_X12_within _ _ hc4) ?_
  refine r_iconst (v := 1) C dX12_bid_12 (by decide) ?_
  obtain ⟨ht, hF⟩ := tst_some hF
  obtain ⟨r5, h6, hc7, hF⟩ := cl_some hF
  refine r_callV (As := [.int r2, .int 1]) C dX12_bid_13 V hT cal_X12_may cls_13 ml_X12_133 im_X12_may se_X12_may ht (by decide) rfl rfl (Nat.le_of_ble_eq_true rfl) (by decide) (by decide) (S_X12_may _ _ hc7) ?_
  obtain ⟨k57, ek57, hF⟩ := jn_some hF
  have Jk57 : ∀  (h8 : PM), k57 h8 = some X → WP p l e (rmN 0 0 1) s m args below meth c D cy base ρ h0 0 0 4 (MQ below (QR D cy base ρ h0 (some (.int X.1)) X.2) args s 0 0 (fun q => base ≤ q)) 57 [] [] h8 := by
    intro h8 hF
    rw [ek57] at hF
    refine r_iconst (v := 0) C dX12_bid_57 (by decide) ?_
    exact k_iret C dX12_bid_58 hr (by decide) (by decide) hF
  refine r_if_eq (tgt := 57) C dX12_bid_16 (by decide) hF (fun hF => ?_) (fun hF => ?_)
  · exact r_sub [] rfl (Jk57  _ hF)
  · refine r_aload_n C dX12_bid_19 rfl 0 rfl ?_
    refine r_iload_n C dX12_bid_20 rfl 2 rfl ?_
    refine r_iconst (v := 0) C dX12_bid_21 (by decide) ?_
    refine r_aload_n C dX12_bid_22 rfl 0 rfl ?_
    refine k_gI C dX12_bid_23 fd_X12_283 (by decide) hF (fun x9 hF => ?_)
    refine r_iconst (v := 1) C dX12_bid_26 (by decide) ?_
    refine r_isub C dX12_bid_27 ?_
    obtain ⟨r10, h11, hc12, hF⟩ := cl_some hF
    refine r_callS (As := [.int a2, .int 0, .int (x9 - 1)]) C dX12_bid_28 V hT cal_X12_within ml_X12_129 sm_X12_within (by decide) rfl rfl (Nat.le_of_ble_eq_true rfl) (by decide) (by decide) (S_X12_within _ _ hc12) ?_
    obtain ⟨k50, ek50, hF⟩ := jn_some hF
    have Jk50 : ∀ (s13 : Int32) (s14 : Nat) (h15 : PM), k50 s13 s14 h15 = some X → WP p l e (rmN 0 0 1) s m args below meth c D cy base ρ h0 0 0 4 (MQ below (QR D cy base ρ h0 (some (.int X.1)) X.2) args s 0 0 (fun q => base ≤ q)) 50 [(0, .ref a0), (1, .int a1), (2, .int a2), (3, .int a3)] [.int s13, .ref s14] h15 := by
      intro s13 s14 h15 hF
      rw [ek50] at hF
      refine r_iconst (v := 2) C dX12_bid_50 (by decide) ?_
      obtain ⟨ht, hF⟩ := tst_some hF
      obtain ⟨r16, h17, hc18, hF⟩ := cl_some hF
      refine r_callV (As := [.int s13, .int 2]) C dX12_bid_51 V hT cal_X12_may cls_13 ml_X12_133 im_X12_may se_X12_may ht (by decide) rfl rfl (Nat.le_of_ble_eq_true rfl) (by decide) (by decide) (S_X12_may _ _ hc18) ?_
      refine r_if_ne (tgt := 59) C dX12_bid_54 (by decide) hF (fun hF => ?_) (fun hF => ?_)
      · refine r_aload_n C dX12_bid_59 rfl 0 rfl ?_
        refine k_gR C dX12_bid_60 fd_X12_111 (by decide) hF (fun x19 hF => ?_)
        refine r_iconst (v := 4) C dX12_bid_63 (by decide) ?_
        refine r_iload_n C dX12_bid_64 rfl 2 rfl ?_
        refine r_imul C dX12_bid_65 ?_
        refine r_iload_n C dX12_bid_66 rfl 1 rfl ?_
        refine r_iadd C dX12_bid_67 ?_
        refine k_aI C dX12_bid_68 hF (fun x20 hF => ?_)
        refine r_if_le (tgt := 74) C dX12_bid_69 (by decide) hF (fun hF => ?_) (fun hF => ?_)
        · refine r_aload_n C dX12_bid_74 rfl 0 rfl ?_
          refine k_gR C dX12_bid_75 fd_X12_111 (by decide) hF (fun x21 hF => ?_)
          refine r_iconst (v := 4) C dX12_bid_78 (by decide) ?_
          refine r_iload_n C dX12_bid_79 rfl 2 rfl ?_
          refine r_imul C dX12_bid_80 ?_
          refine r_iload_n C dX12_bid_81 rfl 1 rfl ?_
          refine r_iadd C dX12_bid_82 ?_
          refine r_iload_n C dX12_bid_83 rfl 3 rfl ?_
          refine k_sI C dX12_bid_84 hF (fun h22 hF => ?_)
          refine r_iconst (v := 1) C dX12_bid_85 (by decide) ?_
          exact k_iret C dX12_bid_86 hr (by decide) (by decide) hF
        · refine r_iconst (v := (-1)) C dX12_bid_72 (by decide) ?_
          exact k_iret C dX12_bid_73 hr (by decide) (by decide) hF
      · exact r_sub [] rfl (Jk57  _ hF)
    obtain ⟨k49, ek49, hF⟩ := jn_some hF
    have Jk49 : ∀ (s23 : Nat) (h24 : PM), k49 s23 h24 = some X → WP p l e (rmN 0 0 1) s m args below meth c D cy base ρ h0 0 0 4 (MQ below (QR D cy base ρ h0 (some (.int X.1)) X.2) args s 0 0 (fun q => base ≤ q)) 49 [(0, .ref a0), (1, .int a1), (2, .int a2), (3, .int a3)] [.ref s23] h24 := by
      intro s23 h24 hF
      rw [ek49] at hF
      refine r_iconst (v := 0) C dX12_bid_49 (by decide) ?_
      exact Jk50 _ _ _ hF
    refine r_if_eq (tgt := 49) C dX12_bid_31 (by decide) hF (fun hF => ?_) (fun hF => ?_)
    · exact Jk49 _ _ hF
    · refine r_iload_n C dX12_bid_34 rfl 3 rfl ?_
      refine r_iconst (v := 1) C dX12_bid_35 (by decide) ?_
      refine r_ldcw C dX12_bid_36 ct_X12_286 ?_
      obtain ⟨r25, h26, hc27, hF⟩ := cl_some hF
      refine r_callS (As := [.int a3, .int 1, .int 1000000]) C dX12_bid_39 V hT cal_X12_within ml_X12_129 sm_X12_within (by decide) rfl rfl (Nat.le_of_ble_eq_true rfl) (by decide) (by decide) (S_X12_within _ _ hc27) ?_
      refine r_if_eq (tgt := 49) C dX12_bid_42 (by decide) hF (fun hF => ?_) (fun hF => ?_)
      · exact Jk49 _ _ hF
      · refine r_iconst (v := 1) C dX12_bid_45 (by decide) ?_
        refine r_goto (tgt := 50) C dX12_bid_46 (by decide) ?_
        exact Jk50 _ _ _ hF
def F_X12_most (a0 : Nat) (a1 : Int32) (a2 : Int32) (h0 : PM) : Option (Int32 × PM) := pI h0 a0 13 0 0 fun h1 => cl (F_X12_within a1 0 3 h1) fun r2 h3 => tst h3 a0 13 (cl (F_X12_may a0 r2 1 h3) fun r5 h6 => jn (fun  (h8 : PM) => some (0, h8)) fun k34 => if r5 = 0 then (k34 h6) else (cl (F_X12_within a2 0 6 h6) fun r9 h10 => tst h10 a0 13 (cl (F_X12_may a0 r9 2 h10) fun r12 h13 => if ¬ r12 = 0 then (gR h13 a0 13 54 fun x15 => aI h13 x15 a1 fun x16 => gR h13 a0 13 54 fun x17 => sI h13 x17 a1 a2 fun h18 => some (x16, h18)) else (k34 h13))))
set_option maxRecDepth 100000 in
set_option maxHeartbeats 4000000 in
theorem S_X12_most {a0 : Nat} {a1 : Int32} {a2 : Int32} {h0 : PM} (r : Int32) (h' : PM) (hF : F_X12_most a0 a1 a2 h0 = some (r, h')) : CN yX12_most cX12_most 4 (some .int) 0 0 1 [.ref a0, .int a1, .int a2] h0 (some (.int r)) h' := by
  obtain ⟨X, eX⟩ : ∃ X, X = (r, h') := ⟨_, rfl⟩
  rw [← eX] at hF
  have e1 : r = X.1 := by rw [eX]
  have e2 : h' = X.2 := by rw [eX]
  rw [e1, e2]
  clear eX e1 e2
  unfold F_X12_most at hF
  refine CN_of (by decide) (fun ρ => Nat.le_of_ble_eq_true rfl) rfl ?_
  intro p l e s m args below meth c D cy base ρ hT C V hr hnm
  refine r_aload_n C dX12_most_0 rfl 0 rfl ?_
  refine r_iconst (v := 0) C dX12_most_1 (by decide) ?_
  refine k_pI C dX12_most_2 fd_X12_1 (fun z => by cases z) (by decide) hF (fun h1 hF => ?_)
  refine r_aload_n C dX12_most_5 rfl 0 rfl ?_
  refine r_iload_n C dX12_most_6 rfl 1 rfl ?_
  refine r_iconst (v := 0) C dX12_most_7 (by decide) ?_
  refine r_iconst (v := 3) C dX12_most_8 (by decide) ?_
  obtain ⟨r2, h3, hc4, hF⟩ := cl_some hF
  refine r_callS (As := [.int a1, .int 0, .int 3]) C dX12_most_9 V hT cal_X12_within ml_X12_129 sm_X12_within (by decide) rfl rfl (Nat.le_of_ble_eq_true rfl) (by decide) (by decide) (S_X12_within _ _ hc4) ?_
  refine r_iconst (v := 1) C dX12_most_12 (by decide) ?_
  obtain ⟨ht, hF⟩ := tst_some hF
  obtain ⟨r5, h6, hc7, hF⟩ := cl_some hF
  refine r_callV (As := [.int r2, .int 1]) C dX12_most_13 V hT cal_X12_may cls_13 ml_X12_133 im_X12_may se_X12_may ht (by decide) rfl rfl (Nat.le_of_ble_eq_true rfl) (by decide) (by decide) (S_X12_may _ _ hc7) ?_
  obtain ⟨k34, ek34, hF⟩ := jn_some hF
  have Jk34 : ∀  (h8 : PM), k34 h8 = some X → WP p l e (rmN 0 0 1) s m args below meth c D cy base ρ h0 0 0 4 (MQ below (QR D cy base ρ h0 (some (.int X.1)) X.2) args s 0 0 (fun q => base ≤ q)) 34 [] [] h8 := by
    intro h8 hF
    rw [ek34] at hF
    refine r_iconst (v := 0) C dX12_most_34 (by decide) ?_
    exact k_iret C dX12_most_35 hr (by decide) (by decide) hF
  refine r_if_eq (tgt := 34) C dX12_most_16 (by decide) hF (fun hF => ?_) (fun hF => ?_)
  · exact r_sub [] rfl (Jk34  _ hF)
  · refine r_aload_n C dX12_most_19 rfl 0 rfl ?_
    refine r_iload_n C dX12_most_20 rfl 2 rfl ?_
    refine r_iconst (v := 0) C dX12_most_21 (by decide) ?_
    refine r_bipush (v := 6) C dX12_most_22 (by decide) ?_
    obtain ⟨r9, h10, hc11, hF⟩ := cl_some hF
    refine r_callS (As := [.int a2, .int 0, .int 6]) C dX12_most_24 V hT cal_X12_within ml_X12_129 sm_X12_within (by decide) rfl rfl (Nat.le_of_ble_eq_true rfl) (by decide) (by decide) (S_X12_within _ _ hc11) ?_
    refine r_iconst (v := 2) C dX12_most_27 (by decide) ?_
    obtain ⟨ht, hF⟩ := tst_some hF
    obtain ⟨r12, h13, hc14, hF⟩ := cl_some hF
    refine r_callV (As := [.int r9, .int 2]) C dX12_most_28 V hT cal_X12_may cls_13 ml_X12_133 im_X12_may se_X12_may ht (by decide) rfl rfl (Nat.le_of_ble_eq_true rfl) (by decide) (by decide) (S_X12_may _ _ hc14) ?_
    refine r_if_ne (tgt := 36) C dX12_most_31 (by decide) hF (fun hF => ?_) (fun hF => ?_)
    · refine r_aload_n C dX12_most_36 rfl 0 rfl ?_
      refine k_gR C dX12_most_37 fd_X12_114 (by decide) hF (fun x15 hF => ?_)
      refine r_iload_n C dX12_most_40 rfl 1 rfl ?_
      refine k_aI C dX12_most_41 hF (fun x16 hF => ?_)
      refine r_istore_n C dX12_most_42 rfl (by decide) rfl ?_
      refine r_aload_n C dX12_most_43 rfl 1 rfl ?_
      refine k_gR C dX12_most_44 fd_X12_114 (by decide) hF (fun x17 hF => ?_)
      refine r_iload_n C dX12_most_47 rfl 2 rfl ?_
      refine r_iload_n C dX12_most_48 rfl 3 rfl ?_
      refine k_sI C dX12_most_49 hF (fun h18 hF => ?_)
      refine r_iload_n C dX12_most_50 rfl 0 rfl ?_
      exact k_iret C dX12_most_51 hr (by decide) (by decide) hF
    · exact r_sub [] rfl (Jk34  _ hF)
def F_X12_sell_L273 (c0 : Nat) (c2 : Int32) (k339 : PM → Option (Int32 × PM)) : Nat → Int32 → PM → Option (Int32 × PM)
  | 0, _, _ => none
  | fu + 1, v10, h11 => gI h11 c0 13 32 fun x12 => if x12 ≤ v10 then (k339 h11) else (gR h11 c0 13 40 fun x13 => aI h11 x13 v10 fun x14 => jn (fun  (h15 : PM) => F_X12_sell_L273 c0 c2 k339 fu (v10 + 1) h15) fun k333 => if ¬ x14 = (-1) then (gR h11 c0 13 56 fun x17 => gR h11 c0 13 40 fun x18 => aI h11 x18 v10 fun x19 => aI h11 x17 x19 fun x20 => jn (fun  (h21 : PM) => gR h21 c0 13 40 fun x22 => sI h21 x22 v10 (-1) fun h23 => k333 h23) fun k326 => if 4 ≤ x20 then (k326 h11) else (gR h11 c0 13 41 fun x24 => gR h11 c0 13 56 fun x25 => gR h11 c0 13 40 fun x26 => aI h11 x26 v10 fun x27 => aI h11 x25 x27 fun x28 => sI h11 x24 v10 x28 fun h29 => k326 h29)) else (k333 h11))
def F_X12_sell_L236 (c0 : Nat) (c1 : Int32) (c2 : Int32) (c3 : Int32) (k265_46 : PM → Option (Int32 × PM)) : Nat → Int32 → PM → Option (Int32 × PM)
  | 0, _, _ => none
  | fu + 1, v48, h49 => gI h49 c0 13 51 fun x50 => if x50 ≤ v48 then (k265_46 h49) else (gR h49 c0 13 56 fun x51 => gR h49 c0 13 55 fun x52 => aI h49 x52 v48 fun x53 => sI h49 x51 v48 x53 fun h54 => F_X12_sell_L236 c0 c1 c2 c3 k265_46 fu (v48 + 1) h54)
def F_X12_sell_L175 (c0 : Nat) (c1 : Int32) (c2 : Int32) (c3 : Int32) (c5 : Int32) (k216 : Int32 → PM → Option (Int32 × PM)) : Nat → Int32 → Int32 → PM → Option (Int32 × PM)
  | 0, _, _, _ => none
  | fu + 1, v56, v57, h58 => if 4 ≤ v57 then (k216 v56 h58) else (jn (fun (s59 : Int32) (h60 : PM) => F_X12_sell_L175 c0 c1 c2 c3 c5 k216 fu s59 (v57 + 1) h60) fun k208 => jn (fun  (h62 : PM) => k208 0 h62) fun k207 => if v56 = 0 then (k207 h58) else (gR h58 c0 13 57 fun x63 => aI h58 x63 v57 fun x64 => gR h58 c0 13 54 fun x65 => aI h58 x65 v57 fun x66 => if x66 < x64 then (k207 h58) else (k208 1 h58)))
def F_X12_sell_L76 (c0 : Nat) (c1 : Int32) (c2 : Int32) (c3 : Int32) (k172 : Int32 → Int32 → PM → Option (Int32 × PM)) : Nat → Int32 → Int32 → Int32 → Int32 → PM → Option (Int32 × PM)
  | 0, _, _, _, _, _ => none
  | fu + 1, v69, v70, v71, v72, h73 => if v72 < 0 then (k172 v70 v71 h73) else (dv 5 (lt_ (v69 - v69 / 5 * 5) fun x74 => dv 5 (lt_ (v69 / 5) fun x75 => gR h73 c0 13 55 fun x76 => sI h73 x76 v72 x74 fun h77 => jn (fun (v78 : Int32) (v79 : Int32) (h80 : PM) => F_X12_sell_L76 c0 c1 c2 c3 k172 fu x75 v78 v79 (v72 + (-1)) h80) fun k166 => if ¬ x74 = 4 then (jn (fun (s82 : Int32) (h83 : PM) => gR h83 c0 13 53 fun x84 => aI h83 x84 ((4 * v72) + x74) fun x85 => lt_ (v70 + x85) fun x86 => gR h83 c0 13 57 fun x87 => aI h83 x87 x74 fun x88 => sI h83 x87 x74 (x88 + 1) fun h89 => k166 x86 s82 h89) fun k136 => jn (fun  (h90 : PM) => k136 0 h90) fun k135 => if v71 = 0 then (k135 h77) else (gR h77 c0 13 53 fun x91 => aI h77 x91 ((4 * v72) + x74) fun x92 => if x92 ≤ 0 then (k135 h77) else (k136 1 h77))) else (k166 v70 v71 h77))))
def F_X12_sell_L48 (c0 : Nat) (c1 : Int32) (c2 : Int32) (c3 : Int32) (c4 : Int32) (c5 : Int32) (c6 : Int32) (k68 : PM → Option (Int32 × PM)) : Nat → Int32 → PM → Option (Int32 × PM)
  | 0, _, _ => none
  | fu + 1, v96, h97 => if 4 ≤ v96 then (k68 h97) else (gR h97 c0 13 57 fun x98 => sI h97 x98 v96 0 fun h99 => F_X12_sell_L48 c0 c1 c2 c3 c4 c5 c6 k68 fu (v96 + 1) h99)
def F_X12_sell_L31 (c0 : Nat) (c1 : Int32) (k271 : Int32 → PM → Option (Int32 × PM)) : Nat → Int32 → Int32 → PM → Option (Int32 × PM)
  | 0, _, _, _ => none
  | fu + 1, v32, v33, h34 => if c1 ≤ v33 then (k271 v32 h34) else (jn (fun  (h35 : PM) => gI h35 c0 13 51 fun x36 => lt_ (x36 - 1) fun x37 => jn (fun (v38 : Int32) (v39 : Int32) (h40 : PM) => jn (fun (v41 : Int32) (h42 : PM) => jn (fun (v43 : Int32) (h44 : PM) => F_X12_sell_L31 c0 c1 k271 fu v43 (v33 + 1) h44) fun k265 => if v41 = 0 then (k265 v32 h42) else (if v32 < v38 then (jn (fun  (h47 : PM) => k265 v38 h47) fun k265_46 => F_X12_sell_L236 c0 c1 v38 v33 k265_46 LF 0 h42) else (k265 v32 h42))) fun k216 => F_X12_sell_L175 c0 c1 v32 v33 v38 k216 LF v39 0 h40) fun k172 => F_X12_sell_L76 c0 c1 v32 v33 k172 LF v33 0 1 x37 h35) fun k68 => F_X12_sell_L48 c0 c1 v32 v33 v33 0 1 k68 LF 0 h34)
def F_X12_sell_L9 (c0 : Nat) (k27 : Int32 → PM → Option (Int32 × PM)) : Nat → Int32 → Int32 → PM → Option (Int32 × PM)
  | 0, _, _, _ => none
  | fu + 1, v109, v110, h111 => gI h111 c0 13 51 fun x112 => if x112 ≤ v110 then (k27 v109 h111) else (lt_ (v109 * 5) fun x113 => F_X12_sell_L9 c0 k27 fu x113 (v110 + 1) h111)
def F_X12_sell (a0 : Nat) (h0 : PM) : Option (Int32 × PM) := pI h0 a0 13 0 0 fun h1 => jn (fun (v2 : Int32) (h3 : PM) => jn (fun (v4 : Int32) (h5 : PM) => jn (fun  (h6 : PM) => pI h6 a0 13 51 0 fun h7 => gI h7 a0 13 52 fun x8 => pI h7 a0 13 52 (x8 + v4) fun h9 => some (v4, h9)) fun k339 => F_X12_sell_L273 a0 v4 k339 LF 0 h5) fun k271 => F_X12_sell_L31 a0 v2 k271 LF (-1) 0 h3) fun k27 => F_X12_sell_L9 a0 k27 LF 1 0 h1
set_option maxRecDepth 100000 in
set_option maxHeartbeats 4000000 in
theorem S_X12_sell {a0 : Nat} {h0 : PM} (r : Int32) (h' : PM) (hF : F_X12_sell a0 h0 = some (r, h')) : CN yX12_sell cX12_sell 9 (some .int) 0 0 0 [.ref a0] h0 (some (.int r)) h' := by
  obtain ⟨X, eX⟩ : ∃ X, X = (r, h') := ⟨_, rfl⟩
  rw [← eX] at hF
  have e1 : r = X.1 := by rw [eX]
  have e2 : h' = X.2 := by rw [eX]
  rw [e1, e2]
  clear eX e1 e2
  unfold F_X12_sell at hF
  refine CN_of (by decide) (fun ρ => Nat.le_of_ble_eq_true rfl) rfl ?_
  intro p l e s m args below meth c D cy base ρ hT C V hr hnm
  refine r_aload_n C dX12_sell_0 rfl 0 rfl ?_
  refine r_iconst (v := 0) C dX12_sell_1 (by decide) ?_
  refine k_pI C dX12_sell_2 fd_X12_1 (fun z => by cases z) (by decide) hF (fun h1 hF => ?_)
  refine r_iconst (v := 1) C dX12_sell_5 (by decide) ?_
  refine r_istore_n C dX12_sell_6 rfl (by decide) rfl ?_
  refine r_iconst (v := 0) C dX12_sell_7 (by decide) ?_
  refine r_istore_n C dX12_sell_8 rfl (by decide) rfl ?_
  obtain ⟨k27, ek27, hF⟩ := jn_some hF
  have Jk27 : ∀ (v2 : Int32) (h3 : PM), k27 v2 h3 = some X → WP p l e (rmN 0 0 0) s m args below meth c D cy base ρ h0 0 0 9 (MQ below (QR D cy base ρ h0 (some (.int X.1)) X.2) args s 0 0 (fun q => base ≤ q)) 27 [(0, .ref a0), (1, .int v2)] [] h3 := by
    intro v2 h3 hF
    rw [ek27] at hF
    refine r_iconst (v := (-1)) C dX12_sell_27 (by decide) ?_
    refine r_istore_n C dX12_sell_28 rfl (by decide) rfl ?_
    refine r_iconst (v := 0) C dX12_sell_29 (by decide) ?_
    refine r_istore_n C dX12_sell_30 rfl (by decide) rfl ?_
    obtain ⟨k271, ek271, hF⟩ := jn_some hF
    have Jk271 : ∀ (v4 : Int32) (h5 : PM), k271 v4 h5 = some X → WP p l e (rmN 0 0 0) s m args below meth c D cy base ρ h0 0 0 9 (MQ below (QR D cy base ρ h0 (some (.int X.1)) X.2) args s 0 0 (fun q => base ≤ q)) 271 [(0, .ref a0), (2, .int v4)] [] h5 := by
      intro v4 h5 hF
      rw [ek271] at hF
      refine r_iconst (v := 0) C dX12_sell_271 (by decide) ?_
      refine r_istore_n C dX12_sell_272 rfl (by decide) rfl ?_
      obtain ⟨k339, ek339, hF⟩ := jn_some hF
      have Jk339 : ∀  (h6 : PM), k339 h6 = some X → WP p l e (rmN 0 0 0) s m args below meth c D cy base ρ h0 0 0 9 (MQ below (QR D cy base ρ h0 (some (.int X.1)) X.2) args s 0 0 (fun q => base ≤ q)) 339 [(0, .ref a0), (2, .int v4)] [] h6 := by
        intro h6 hF
        rw [ek339] at hF
        refine r_aload_n C dX12_sell_339 rfl 0 rfl ?_
        refine r_iconst (v := 0) C dX12_sell_340 (by decide) ?_
        refine k_pI C dX12_sell_341 fd_X12_283 (fun z => by cases z) (by decide) hF (fun h7 hF => ?_)
        refine r_aload_n C dX12_sell_344 rfl 0 rfl ?_
        refine r_dup C dX12_sell_345 rfl ?_
        refine k_gI C dX12_sell_346 fd_X12_287 (by decide) hF (fun x8 hF => ?_)
        refine r_iload_n C dX12_sell_349 rfl 1 rfl ?_
        refine r_iadd C dX12_sell_350 ?_
        refine k_pI C dX12_sell_351 fd_X12_287 (fun z => by cases z) (by decide) hF (fun h9 hF => ?_)
        refine r_iload_n C dX12_sell_354 rfl 1 rfl ?_
        exact k_iret C dX12_sell_355 hr (by decide) (by decide) hF
      have L273 : ∀ (fu : Nat) (v10 : Int32) (h11 : PM), F_X12_sell_L273 a0 v4 k339 fu v10 h11 = some X → WP p l e (rmN 0 0 0) s m args below meth c D cy base ρ h0 0 0 9 (MQ below (QR D cy base ρ h0 (some (.int X.1)) X.2) args s 0 0 (fun q => base ≤ q)) 273 [(0, .ref a0), (2, .int v4), (3, .int v10)] [] h11 := by
        intro fu
        induction fu with
        | zero => intro v10 h11 hF; rw [F_X12_sell_L273.eq_1] at hF; cases hF
        | succ fu ih =>
          intro v10 h11 hF
          rw [F_X12_sell_L273.eq_2] at hF
          refine r_iload_n C dX12_sell_273 rfl 2 rfl ?_
          refine r_aload_n C dX12_sell_274 rfl 0 rfl ?_
          refine k_gI C dX12_sell_275 fd_X12_239 (by decide) hF (fun x12 hF => ?_)
          refine r_icmp_ge (tgt := 339) C dX12_sell_278 (by decide) hF (fun hF => ?_) (fun hF => ?_)
          · exact r_sub [0, 1] rfl (Jk339  _ hF)
          · refine r_aload_n C dX12_sell_281 rfl 0 rfl ?_
            refine k_gR C dX12_sell_282 fd_X12_86 (by decide) hF (fun x13 hF => ?_)
            refine r_iload_n C dX12_sell_285 rfl 2 rfl ?_
            refine k_aI C dX12_sell_286 hF (fun x14 hF => ?_)
            refine r_iconst (v := (-1)) C dX12_sell_287 (by decide) ?_
            obtain ⟨k333_15, ek333_15, hF⟩ := jn_some hF
            have Jk333_15 : ∀  (h16 : PM), k333_15 h16 = some X → WP p l e (rmN 0 0 0) s m args below meth c D cy base ρ h0 0 0 9 (MQ below (QR D cy base ρ h0 (some (.int X.1)) X.2) args s 0 0 (fun q => base ≤ q)) 333 [(0, .ref a0), (2, .int v4), (3, .int v10)] [] h16 := by
              intro h16 hF
              rw [ek333_15] at hF
              refine r_iinc (v := v10 + 1) C dX12_sell_333 2 rfl (congrArg (fun z => v10 + z) (by decide)) (by decide) rfl ?_
              refine r_goto (tgt := 273) C dX12_sell_336 (by decide) ?_
              exact r_sub [1, 2, 0] rfl (ih _ _ hF)
            refine r_icmp_ne (tgt := 294) C dX12_sell_288 (by decide) hF (fun hF => ?_) (fun hF => ?_)
            · refine r_aload_n C dX12_sell_294 rfl 0 rfl ?_
              refine k_gR C dX12_sell_295 fd_X12_120 (by decide) hF (fun x18 hF => ?_)
              refine r_aload_n C dX12_sell_298 rfl 0 rfl ?_
              refine k_gR C dX12_sell_299 fd_X12_86 (by decide) hF (fun x19 hF => ?_)
              refine r_iload_n C dX12_sell_302 rfl 2 rfl ?_
              refine k_aI C dX12_sell_303 hF (fun x20 hF => ?_)
              refine k_aI C dX12_sell_304 hF (fun x21 hF => ?_)
              refine r_iconst (v := 4) C dX12_sell_305 (by decide) ?_
              obtain ⟨k326_22, ek326_22, hF⟩ := jn_some hF
              have Jk326_22 : ∀  (h23 : PM), k326_22 h23 = some X → WP p l e (rmN 0 0 0) s m args below meth c D cy base ρ h0 0 0 9 (MQ below (QR D cy base ρ h0 (some (.int X.1)) X.2) args s 0 0 (fun q => base ≤ q)) 326 [(0, .ref a0), (2, .int v4), (3, .int v10)] [] h23 := by
                intro h23 hF
                rw [ek326_22] at hF
                refine r_aload_n C dX12_sell_326 rfl 0 rfl ?_
                refine k_gR C dX12_sell_327 fd_X12_86 (by decide) hF (fun x24 hF => ?_)
                refine r_iload_n C dX12_sell_330 rfl 2 rfl ?_
                refine r_iconst (v := (-1)) C dX12_sell_331 (by decide) ?_
                refine k_sI C dX12_sell_332 hF (fun h25 hF => ?_)
                exact Jk333_15  _ hF
              refine r_icmp_ge (tgt := 326) C dX12_sell_306 (by decide) hF (fun hF => ?_) (fun hF => ?_)
              · exact Jk326_22  _ hF
              · refine r_aload_n C dX12_sell_309 rfl 0 rfl ?_
                refine k_gR C dX12_sell_310 fd_X12_89 (by decide) hF (fun x26 hF => ?_)
                refine r_iload_n C dX12_sell_313 rfl 2 rfl ?_
                refine r_aload_n C dX12_sell_314 rfl 0 rfl ?_
                refine k_gR C dX12_sell_315 fd_X12_120 (by decide) hF (fun x27 hF => ?_)
                refine r_aload_n C dX12_sell_318 rfl 0 rfl ?_
                refine k_gR C dX12_sell_319 fd_X12_86 (by decide) hF (fun x28 hF => ?_)
                refine r_iload_n C dX12_sell_322 rfl 2 rfl ?_
                refine k_aI C dX12_sell_323 hF (fun x29 hF => ?_)
                refine k_aI C dX12_sell_324 hF (fun x30 hF => ?_)
                refine k_sI C dX12_sell_325 hF (fun h31 hF => ?_)
                exact Jk326_22  _ hF
            · refine r_goto (tgt := 333) C dX12_sell_291 (by decide) ?_
              exact Jk333_15  _ hF
      exact r_sub [1, 2, 0] rfl (L273 _ _ _ hF)
    have L31 : ∀ (fu : Nat) (v32 : Int32) (v33 : Int32) (h34 : PM), F_X12_sell_L31 a0 v2 k271 fu v32 v33 h34 = some X → WP p l e (rmN 0 0 0) s m args below meth c D cy base ρ h0 0 0 9 (MQ below (QR D cy base ρ h0 (some (.int X.1)) X.2) args s 0 0 (fun q => base ≤ q)) 31 [(0, .ref a0), (1, .int v2), (2, .int v32), (3, .int v33)] [] h34 := by
      intro fu
      induction fu with
      | zero => intro v32 v33 h34 hF; rw [F_X12_sell_L31.eq_1] at hF; cases hF
      | succ fu ih =>
        intro v32 v33 h34 hF
        rw [F_X12_sell_L31.eq_2] at hF
        refine r_iload_n C dX12_sell_31 rfl 3 rfl ?_
        refine r_iload_n C dX12_sell_32 rfl 1 rfl ?_
        refine r_icmp_ge (tgt := 271) C dX12_sell_33 (by decide) hF (fun hF => ?_) (fun hF => ?_)
        · exact r_sub [0, 2] rfl (Jk271 _ _ hF)
        · refine r_iload_n C dX12_sell_36 rfl 3 rfl ?_
          refine r_istore C dX12_sell_37 (by decide) rfl ?_
          refine r_iconst (v := 0) C dX12_sell_39 (by decide) ?_
          refine r_istore C dX12_sell_40 (by decide) rfl ?_
          refine r_iconst (v := 1) C dX12_sell_42 (by decide) ?_
          refine r_istore C dX12_sell_43 (by decide) rfl ?_
          refine r_iconst (v := 0) C dX12_sell_45 (by decide) ?_
          refine r_istore C dX12_sell_46 (by decide) rfl ?_
          obtain ⟨k68_35, ek68_35, hF⟩ := jn_some hF
          have Jk68_35 : ∀  (h36 : PM), k68_35 h36 = some X → WP p l e (rmN 0 0 0) s m args below meth c D cy base ρ h0 0 0 9 (MQ below (QR D cy base ρ h0 (some (.int X.1)) X.2) args s 0 0 (fun q => base ≤ q)) 68 [(0, .ref a0), (1, .int v2), (2, .int v32), (3, .int v33), (4, .int v33), (5, .int 0), (6, .int 1)] [] h36 := by
            intro h36 hF
            rw [ek68_35] at hF
            refine r_aload_n C dX12_sell_68 rfl 0 rfl ?_
            refine k_gI C dX12_sell_69 fd_X12_283 (by decide) hF (fun x37 hF => ?_)
            refine r_iconst (v := 1) C dX12_sell_72 (by decide) ?_
            refine r_isub C dX12_sell_73 ?_
            refine k_lti hF (fun x38 hF => ?_)
            refine r_istore C dX12_sell_74 (by decide) rfl ?_
            obtain ⟨k172_41, ek172_41, hF⟩ := jn_some hF
            have Jk172_41 : ∀ (v39 : Int32) (v40 : Int32) (h42 : PM), k172_41 v39 v40 h42 = some X → WP p l e (rmN 0 0 0) s m args below meth c D cy base ρ h0 0 0 9 (MQ below (QR D cy base ρ h0 (some (.int X.1)) X.2) args s 0 0 (fun q => base ≤ q)) 172 [(0, .ref a0), (1, .int v2), (2, .int v32), (3, .int v33), (5, .int v39), (6, .int v40)] [] h42 := by
              intro v39 v40 h42 hF
              rw [ek172_41] at hF
              refine r_iconst (v := 0) C dX12_sell_172 (by decide) ?_
              refine r_istore C dX12_sell_173 (by decide) rfl ?_
              obtain ⟨k216_44, ek216_44, hF⟩ := jn_some hF
              have Jk216_44 : ∀ (v43 : Int32) (h45 : PM), k216_44 v43 h45 = some X → WP p l e (rmN 0 0 0) s m args below meth c D cy base ρ h0 0 0 9 (MQ below (QR D cy base ρ h0 (some (.int X.1)) X.2) args s 0 0 (fun q => base ≤ q)) 216 [(0, .ref a0), (1, .int v2), (2, .int v32), (3, .int v33), (5, .int v39), (6, .int v43)] [] h45 := by
                intro v43 h45 hF
                rw [ek216_44] at hF
                refine r_iload C dX12_sell_216 5 rfl ?_
                obtain ⟨k265_47, ek265_47, hF⟩ := jn_some hF
                have Jk265_47 : ∀ (v46 : Int32) (h48 : PM), k265_47 v46 h48 = some X → WP p l e (rmN 0 0 0) s m args below meth c D cy base ρ h0 0 0 9 (MQ below (QR D cy base ρ h0 (some (.int X.1)) X.2) args s 0 0 (fun q => base ≤ q)) 265 [(0, .ref a0), (1, .int v2), (2, .int v46), (3, .int v33)] [] h48 := by
                  intro v46 h48 hF
                  rw [ek265_47] at hF
                  refine r_iinc (v := v33 + 1) C dX12_sell_265 3 rfl (congrArg (fun z => v33 + z) (by decide)) (by decide) rfl ?_
                  refine r_goto (tgt := 31) C dX12_sell_268 (by decide) ?_
                  exact r_sub [1, 2, 3, 0] rfl (ih _ _ _ hF)
                refine r_if_eq (tgt := 265) C dX12_sell_218 (by decide) hF (fun hF => ?_) (fun hF => ?_)
                · exact r_sub [0, 1, 2, 3] rfl (Jk265_47 _ _ hF)
                · refine r_iload C dX12_sell_221 4 rfl ?_
                  refine r_iload_n C dX12_sell_223 rfl 2 rfl ?_
                  refine r_icmp_gt (tgt := 230) C dX12_sell_224 (by decide) hF (fun hF => ?_) (fun hF => ?_)
                  · refine r_iload C dX12_sell_230 4 rfl ?_
                    refine r_istore_n C dX12_sell_232 rfl (by decide) rfl ?_
                    refine r_iconst (v := 0) C dX12_sell_233 (by decide) ?_
                    refine r_istore C dX12_sell_234 (by decide) rfl ?_
                    obtain ⟨k265_50, ek265_50, hF⟩ := jn_some hF
                    have Jk265_50 : ∀  (h51 : PM), k265_50 h51 = some X → WP p l e (rmN 0 0 0) s m args below meth c D cy base ρ h0 0 0 9 (MQ below (QR D cy base ρ h0 (some (.int X.1)) X.2) args s 0 0 (fun q => base ≤ q)) 265 [(0, .ref a0), (1, .int v2), (2, .int v39), (3, .int v33)] [] h51 := by
                      intro h51 hF
                      rw [ek265_50] at hF
                      exact Jk265_47 _ _ hF
                    have L236_60 : ∀ (fu : Nat) (v52 : Int32) (h53 : PM), F_X12_sell_L236 a0 v2 v39 v33 k265_50 fu v52 h53 = some X → WP p l e (rmN 0 0 0) s m args below meth c D cy base ρ h0 0 0 9 (MQ below (QR D cy base ρ h0 (some (.int X.1)) X.2) args s 0 0 (fun q => base ≤ q)) 236 [(0, .ref a0), (1, .int v2), (2, .int v39), (3, .int v33), (7, .int v52)] [] h53 := by
                      intro fu
                      induction fu with
                      | zero => intro v52 h53 hF; rw [F_X12_sell_L236.eq_1] at hF; cases hF
                      | succ fu ih =>
                        intro v52 h53 hF
                        rw [F_X12_sell_L236.eq_2] at hF
                        refine r_iload C dX12_sell_236 4 rfl ?_
                        refine r_aload_n C dX12_sell_238 rfl 0 rfl ?_
                        refine k_gI C dX12_sell_239 fd_X12_283 (by decide) hF (fun x54 hF => ?_)
                        refine r_icmp_ge (tgt := 265) C dX12_sell_242 (by decide) hF (fun hF => ?_) (fun hF => ?_)
                        · exact r_sub [0, 1, 2, 3] rfl (Jk265_50  _ hF)
                        · refine r_aload_n C dX12_sell_245 rfl 0 rfl ?_
                          refine k_gR C dX12_sell_246 fd_X12_120 (by decide) hF (fun x55 hF => ?_)
                          refine r_iload C dX12_sell_249 4 rfl ?_
                          refine r_aload_n C dX12_sell_251 rfl 0 rfl ?_
                          refine k_gR C dX12_sell_252 fd_X12_117 (by decide) hF (fun x56 hF => ?_)
                          refine r_iload C dX12_sell_255 4 rfl ?_
                          refine k_aI C dX12_sell_257 hF (fun x57 hF => ?_)
                          refine k_sI C dX12_sell_258 hF (fun h58 hF => ?_)
                          refine r_iinc (v := v52 + 1) C dX12_sell_259 4 rfl (congrArg (fun z => v52 + z) (by decide)) (by decide) rfl ?_
                          refine r_goto (tgt := 236) C dX12_sell_262 (by decide) ?_
                          exact r_sub [1, 2, 3, 4, 0] rfl (ih _ _ hF)
                    exact r_sub [2, 3, 1, 4, 0] rfl (L236_60 _ _ _ hF)
                  · refine r_goto (tgt := 265) C dX12_sell_227 (by decide) ?_
                    exact r_sub [0, 1, 2, 3] rfl (Jk265_47 _ _ hF)
              have L175_74 : ∀ (fu : Nat) (v61 : Int32) (v62 : Int32) (h63 : PM), F_X12_sell_L175 a0 v2 v32 v33 v39 k216_44 fu v61 v62 h63 = some X → WP p l e (rmN 0 0 0) s m args below meth c D cy base ρ h0 0 0 9 (MQ below (QR D cy base ρ h0 (some (.int X.1)) X.2) args s 0 0 (fun q => base ≤ q)) 175 [(0, .ref a0), (1, .int v2), (2, .int v32), (3, .int v33), (5, .int v39), (6, .int v61), (7, .int v62)] [] h63 := by
                intro fu
                induction fu with
                | zero => intro v61 v62 h63 hF; rw [F_X12_sell_L175.eq_1] at hF; cases hF
                | succ fu ih =>
                  intro v61 v62 h63 hF
                  rw [F_X12_sell_L175.eq_2] at hF
                  refine r_iload C dX12_sell_175 6 rfl ?_
                  refine r_iconst (v := 4) C dX12_sell_177 (by decide) ?_
                  refine r_icmp_ge (tgt := 216) C dX12_sell_178 (by decide) hF (fun hF => ?_) (fun hF => ?_)
                  · exact r_sub [0, 1, 2, 3, 4, 5] rfl (Jk216_44 _ _ hF)
                  · refine r_iload C dX12_sell_181 5 rfl ?_
                    obtain ⟨k208_65, ek208_65, hF⟩ := jn_some hF
                    have Jk208_65 : ∀ (s64 : Int32) (h66 : PM), k208_65 s64 h66 = some X → WP p l e (rmN 0 0 0) s m args below meth c D cy base ρ h0 0 0 9 (MQ below (QR D cy base ρ h0 (some (.int X.1)) X.2) args s 0 0 (fun q => base ≤ q)) 208 [(0, .ref a0), (1, .int v2), (2, .int v32), (3, .int v33), (5, .int v39), (7, .int v62)] [.int s64] h66 := by
                      intro s64 h66 hF
                      rw [ek208_65] at hF
                      refine r_istore C dX12_sell_208 (by decide) rfl ?_
                      refine r_iinc (v := v62 + 1) C dX12_sell_210 6 rfl (congrArg (fun z => v62 + z) (by decide)) (by decide) rfl ?_
                      refine r_goto (tgt := 175) C dX12_sell_213 (by decide) ?_
                      exact r_sub [2, 3, 4, 5, 6, 1, 0] rfl (ih _ _ _ hF)
                    obtain ⟨k207_68, ek207_68, hF⟩ := jn_some hF
                    have Jk207_68 : ∀  (h69 : PM), k207_68 h69 = some X → WP p l e (rmN 0 0 0) s m args below meth c D cy base ρ h0 0 0 9 (MQ below (QR D cy base ρ h0 (some (.int X.1)) X.2) args s 0 0 (fun q => base ≤ q)) 207 [(0, .ref a0), (1, .int v2), (2, .int v32), (3, .int v33), (5, .int v39), (7, .int v62)] [] h69 := by
                      intro h69 hF
                      rw [ek207_68] at hF
                      refine r_iconst (v := 0) C dX12_sell_207 (by decide) ?_
                      exact Jk208_65 _ _ hF
                    refine r_if_eq (tgt := 207) C dX12_sell_183 (by decide) hF (fun hF => ?_) (fun hF => ?_)
                    · exact r_sub [0, 1, 2, 3, 4, 6] rfl (Jk207_68  _ hF)
                    · refine r_aload_n C dX12_sell_186 rfl 0 rfl ?_
                      refine k_gR C dX12_sell_187 fd_X12_123 (by decide) hF (fun x70 hF => ?_)
                      refine r_iload C dX12_sell_190 6 rfl ?_
                      refine k_aI C dX12_sell_192 hF (fun x71 hF => ?_)
                      refine r_aload_n C dX12_sell_193 rfl 0 rfl ?_
                      refine k_gR C dX12_sell_194 fd_X12_114 (by decide) hF (fun x72 hF => ?_)
                      refine r_iload C dX12_sell_197 6 rfl ?_
                      refine k_aI C dX12_sell_199 hF (fun x73 hF => ?_)
                      refine r_icmp_gt (tgt := 207) C dX12_sell_200 (by decide) hF (fun hF => ?_) (fun hF => ?_)
                      · exact r_sub [0, 1, 2, 3, 4, 6] rfl (Jk207_68  _ hF)
                      · refine r_iconst (v := 1) C dX12_sell_203 (by decide) ?_
                        refine r_goto (tgt := 208) C dX12_sell_204 (by decide) ?_
                        exact r_sub [0, 1, 2, 3, 4, 6] rfl (Jk208_65 _ _ hF)
              exact r_sub [1, 2, 3, 4, 5, 6, 0] rfl (L175_74 _ _ _ _ hF)
            have L76_102 : ∀ (fu : Nat) (v75 : Int32) (v76 : Int32) (v77 : Int32) (v78 : Int32) (h79 : PM), F_X12_sell_L76 a0 v2 v32 v33 k172_41 fu v75 v76 v77 v78 h79 = some X → WP p l e (rmN 0 0 0) s m args below meth c D cy base ρ h0 0 0 9 (MQ below (QR D cy base ρ h0 (some (.int X.1)) X.2) args s 0 0 (fun q => base ≤ q)) 76 [(0, .ref a0), (1, .int v2), (2, .int v32), (3, .int v33), (4, .int v75), (5, .int v76), (6, .int v77), (7, .int v78)] [] h79 := by
              intro fu
              induction fu with
              | zero => intro v75 v76 v77 v78 h79 hF; rw [F_X12_sell_L76.eq_1] at hF; cases hF
              | succ fu ih =>
                intro v75 v76 v77 v78 h79 hF
                rw [F_X12_sell_L76.eq_2] at hF
                refine r_iload C dX12_sell_76 7 rfl ?_
                refine r_if_lt (tgt := 172) C dX12_sell_78 (by decide) hF (fun hF => ?_) (fun hF => ?_)
                · exact r_sub [0, 1, 2, 3, 5, 6] rfl (Jk172_41 _ _ _ hF)
                · refine r_iload C dX12_sell_81 4 rfl ?_
                  refine r_iconst (v := 5) C dX12_sell_83 (by decide) ?_
                  refine k_irem C dX12_sell_84 hF (fun hF => ?_)
                  refine k_lti hF (fun x80 hF => ?_)
                  refine r_istore C dX12_sell_85 (by decide) rfl ?_
                  refine r_iload C dX12_sell_87 5 rfl ?_
                  refine r_iconst (v := 5) C dX12_sell_89 (by decide) ?_
                  refine k_idiv C dX12_sell_90 hF (fun hF => ?_)
                  refine k_lti hF (fun x81 hF => ?_)
                  refine r_istore C dX12_sell_91 (by decide) rfl ?_
                  refine r_aload_n C dX12_sell_93 rfl 2 rfl ?_
                  refine k_gR C dX12_sell_94 fd_X12_117 (by decide) hF (fun x82 hF => ?_)
                  refine r_iload C dX12_sell_97 8 rfl ?_
                  refine r_iload C dX12_sell_99 1 rfl ?_
                  refine k_sI C dX12_sell_101 hF (fun h83 hF => ?_)
                  refine r_iload C dX12_sell_102 1 rfl ?_
                  refine r_iconst (v := 4) C dX12_sell_104 (by decide) ?_
                  obtain ⟨k166_86, ek166_86, hF⟩ := jn_some hF
                  have Jk166_86 : ∀ (v84 : Int32) (v85 : Int32) (h87 : PM), k166_86 v84 v85 h87 = some X → WP p l e (rmN 0 0 0) s m args below meth c D cy base ρ h0 0 0 9 (MQ below (QR D cy base ρ h0 (some (.int X.1)) X.2) args s 0 0 (fun q => base ≤ q)) 166 [(0, .ref a0), (1, .int v2), (2, .int v32), (3, .int v33), (4, .int x81), (5, .int v84), (6, .int v85), (7, .int v78)] [] h87 := by
                    intro v84 v85 h87 hF
                    rw [ek166_86] at hF
                    refine r_iinc (v := v78 + (-1)) C dX12_sell_166 7 rfl (congrArg (fun z => v78 + z) (by decide)) (by decide) rfl ?_
                    refine r_goto (tgt := 76) C dX12_sell_169 (by decide) ?_
                    exact r_sub [1, 2, 3, 4, 5, 6, 7, 0] rfl (ih _ _ _ _ _ hF)
                  refine r_icmp_ne (tgt := 111) C dX12_sell_105 (by decide) hF (fun hF => ?_) (fun hF => ?_)
                  · refine r_iload C dX12_sell_111 7 rfl ?_
                    obtain ⟨k136_90, ek136_90, hF⟩ := jn_some hF
                    have Jk136_90 : ∀ (s89 : Int32) (h91 : PM), k136_90 s89 h91 = some X → WP p l e (rmN 0 0 0) s m args below meth c D cy base ρ h0 0 0 9 (MQ below (QR D cy base ρ h0 (some (.int X.1)) X.2) args s 0 0 (fun q => base ≤ q)) 136 [(0, .ref a0), (1, .int v2), (2, .int v32), (3, .int v33), (4, .int x81), (5, .int v76), (7, .int v78), (8, .int x80)] [.int s89] h91 := by
                      intro s89 h91 hF
                      rw [ek136_90] at hF
                      refine r_istore C dX12_sell_136 (by decide) rfl ?_
                      refine r_iload C dX12_sell_138 6 rfl ?_
                      refine r_aload_n C dX12_sell_140 rfl 1 rfl ?_
                      refine k_gR C dX12_sell_141 fd_X12_111 (by decide) hF (fun x92 hF => ?_)
                      refine r_iconst (v := 4) C dX12_sell_144 (by decide) ?_
                      refine r_iload C dX12_sell_145 7 rfl ?_
                      refine r_imul C dX12_sell_147 ?_
                      refine r_iload C dX12_sell_148 8 rfl ?_
                      refine r_iadd C dX12_sell_150 ?_
                      refine k_aI C dX12_sell_151 hF (fun x93 hF => ?_)
                      refine r_iadd C dX12_sell_152 ?_
                      refine k_lti hF (fun x94 hF => ?_)
                      refine r_istore C dX12_sell_153 (by decide) rfl ?_
                      refine r_aload_n C dX12_sell_155 rfl 2 rfl ?_
                      refine k_gR C dX12_sell_156 fd_X12_123 (by decide) hF (fun x95 hF => ?_)
                      refine r_iload C dX12_sell_159 8 rfl ?_
                      refine r_dup2 C dX12_sell_161 rfl rfl ?_
                      refine k_aI C dX12_sell_162 hF (fun x96 hF => ?_)
                      refine r_iconst (v := 1) C dX12_sell_163 (by decide) ?_
                      refine r_iadd C dX12_sell_164 ?_
                      refine k_sI C dX12_sell_165 hF (fun h97 hF => ?_)
                      exact r_sub [2, 3, 4, 5, 6, 0, 1, 7] rfl (Jk166_86 _ _ _ hF)
                    obtain ⟨k135_98, ek135_98, hF⟩ := jn_some hF
                    have Jk135_98 : ∀  (h99 : PM), k135_98 h99 = some X → WP p l e (rmN 0 0 0) s m args below meth c D cy base ρ h0 0 0 9 (MQ below (QR D cy base ρ h0 (some (.int X.1)) X.2) args s 0 0 (fun q => base ≤ q)) 135 [(0, .ref a0), (1, .int v2), (2, .int v32), (3, .int v33), (4, .int x81), (5, .int v76), (7, .int v78), (8, .int x80)] [] h99 := by
                      intro h99 hF
                      rw [ek135_98] at hF
                      refine r_iconst (v := 0) C dX12_sell_135 (by decide) ?_
                      exact Jk136_90 _ _ hF
                    refine r_if_eq (tgt := 135) C dX12_sell_113 (by decide) hF (fun hF => ?_) (fun hF => ?_)
                    · exact r_sub [2, 3, 4, 5, 0, 6, 8, 1] rfl (Jk135_98  _ hF)
                    · refine r_aload_n C dX12_sell_116 rfl 2 rfl ?_
                      refine k_gR C dX12_sell_117 fd_X12_111 (by decide) hF (fun x100 hF => ?_)
                      refine r_iconst (v := 4) C dX12_sell_120 (by decide) ?_
                      refine r_iload C dX12_sell_121 8 rfl ?_
                      refine r_imul C dX12_sell_123 ?_
                      refine r_iload C dX12_sell_124 1 rfl ?_
                      refine r_iadd C dX12_sell_126 ?_
                      refine k_aI C dX12_sell_127 hF (fun x101 hF => ?_)
                      refine r_if_le (tgt := 135) C dX12_sell_128 (by decide) hF (fun hF => ?_) (fun hF => ?_)
                      · exact r_sub [2, 3, 4, 5, 0, 6, 8, 1] rfl (Jk135_98  _ hF)
                      · refine r_iconst (v := 1) C dX12_sell_131 (by decide) ?_
                        refine r_goto (tgt := 136) C dX12_sell_132 (by decide) ?_
                        exact r_sub [2, 3, 4, 5, 0, 6, 8, 1] rfl (Jk136_90 _ _ hF)
                  · refine r_goto (tgt := 166) C dX12_sell_108 (by decide) ?_
                    exact r_sub [2, 3, 4, 5, 0, 6, 7, 8] rfl (Jk166_86 _ _ _ hF)
            exact r_sub [1, 2, 3, 4, 5, 6, 7, 0] rfl (L76_102 _ _ _ _ _ _ hF)
          have L48_108 : ∀ (fu : Nat) (v103 : Int32) (h104 : PM), F_X12_sell_L48 a0 v2 v32 v33 v33 0 1 k68_35 fu v103 h104 = some X → WP p l e (rmN 0 0 0) s m args below meth c D cy base ρ h0 0 0 9 (MQ below (QR D cy base ρ h0 (some (.int X.1)) X.2) args s 0 0 (fun q => base ≤ q)) 48 [(0, .ref a0), (1, .int v2), (2, .int v32), (3, .int v33), (4, .int v33), (5, .int 0), (6, .int 1), (7, .int v103)] [] h104 := by
            intro fu
            induction fu with
            | zero => intro v103 h104 hF; rw [F_X12_sell_L48.eq_1] at hF; cases hF
            | succ fu ih =>
              intro v103 h104 hF
              rw [F_X12_sell_L48.eq_2] at hF
              refine r_iload C dX12_sell_48 7 rfl ?_
              refine r_iconst (v := 4) C dX12_sell_50 (by decide) ?_
              refine r_icmp_ge (tgt := 68) C dX12_sell_51 (by decide) hF (fun hF => ?_) (fun hF => ?_)
              · exact r_sub [0, 1, 2, 3, 4, 5, 6] rfl (Jk68_35  _ hF)
              · refine r_aload_n C dX12_sell_54 rfl 0 rfl ?_
                refine k_gR C dX12_sell_55 fd_X12_123 (by decide) hF (fun x105 hF => ?_)
                refine r_iload C dX12_sell_58 7 rfl ?_
                refine r_iconst (v := 0) C dX12_sell_60 (by decide) ?_
                refine k_sI C dX12_sell_61 hF (fun h106 hF => ?_)
                refine r_iinc (v := v103 + 1) C dX12_sell_62 7 rfl (congrArg (fun z => v103 + z) (by decide)) (by decide) rfl ?_
                refine r_goto (tgt := 48) C dX12_sell_65 (by decide) ?_
                exact r_sub [1, 2, 3, 4, 5, 6, 7, 0] rfl (ih _ _ hF)
          exact r_sub [4, 5, 6, 7, 3, 2, 1, 0] rfl (L48_108 _ _ _ hF)
    exact r_sub [2, 3, 1, 0] rfl (L31 _ _ _ _ hF)
  have L9 : ∀ (fu : Nat) (v109 : Int32) (v110 : Int32) (h111 : PM), F_X12_sell_L9 a0 k27 fu v109 v110 h111 = some X → WP p l e (rmN 0 0 0) s m args below meth c D cy base ρ h0 0 0 9 (MQ below (QR D cy base ρ h0 (some (.int X.1)) X.2) args s 0 0 (fun q => base ≤ q)) 9 [(0, .ref a0), (1, .int v109), (2, .int v110)] [] h111 := by
    intro fu
    induction fu with
    | zero => intro v109 v110 h111 hF; rw [F_X12_sell_L9.eq_1] at hF; cases hF
    | succ fu ih =>
      intro v109 v110 h111 hF
      rw [F_X12_sell_L9.eq_2] at hF
      refine r_iload_n C dX12_sell_9 rfl 2 rfl ?_
      refine r_aload_n C dX12_sell_10 rfl 0 rfl ?_
      refine k_gI C dX12_sell_11 fd_X12_283 (by decide) hF (fun x112 hF => ?_)
      refine r_icmp_ge (tgt := 27) C dX12_sell_14 (by decide) hF (fun hF => ?_) (fun hF => ?_)
      · exact r_sub [0, 1] rfl (Jk27 _ _ hF)
      · refine r_iload_n C dX12_sell_17 rfl 1 rfl ?_
        refine r_iconst (v := 5) C dX12_sell_18 (by decide) ?_
        refine r_imul C dX12_sell_19 ?_
        refine k_lti hF (fun x113 hF => ?_)
        refine r_istore_n C dX12_sell_20 rfl (by decide) rfl ?_
        refine r_iinc (v := v110 + 1) C dX12_sell_21 2 rfl (congrArg (fun z => v110 + z) (by decide)) (by decide) rfl ?_
        refine r_goto (tgt := 9) C dX12_sell_24 (by decide) ?_
        exact r_sub [2, 1, 0] rfl (ih _ _ _ hF)
  exact r_sub [2, 1, 0] rfl (L9 _ _ _ _ hF)
def F_X12_count_L91 (c0 : Nat) (k123 : Int32 → PM → Option (Int32 × PM)) : Nat → Int32 → Int32 → PM → Option (Int32 × PM)
  | 0, _, _, _ => none
  | fu + 1, v11, v12, h13 => gI h13 c0 13 32 fun x14 => if x14 ≤ v12 then (k123 v11 h13) else (gR h13 c0 13 41 fun x15 => aI h13 x15 v12 fun x16 => jn (fun (s17 : Int32) (s18 : Int32) (h19 : PM) => lt_ (s18 + s17) fun x20 => F_X12_count_L91 c0 k123 fu x20 (v12 + 1) h19) fun k115 => if x16 = (-1) then (k115 0 v11 h13) else (k115 1 v11 h13))
def F_X12_count (a0 : Nat) (a1 : Int32) (h0 : PM) : Option (Int32 × PM) := pI h0 a0 13 0 0 fun h1 => if a1 = 0 then (gI h1 a0 13 1 fun x2 => some (x2, h1)) else (if a1 = 1 then (gI h1 a0 13 7 fun x3 => some (x3, h1)) else (if a1 = 2 then (gI h1 a0 13 32 fun x4 => some (x4, h1)) else (if a1 = 3 then (gI h1 a0 13 51 fun x5 => some (x5, h1)) else (if a1 = 4 then (gI h1 a0 13 52 fun x6 => some (x6, h1)) else (if a1 = 5 then (gI h1 a0 13 14 fun x7 => some (x7, h1)) else (if a1 = 6 then (gI h1 a0 13 3 fun x8 => some (x8, h1)) else (if a1 = 7 then (jn (fun (v9 : Int32) (h10 : PM) => some (v9, h10)) fun k123 => F_X12_count_L91 a0 k123 LF 0 0 h1) else (some ((-1), h1)))))))))
set_option maxRecDepth 100000 in
set_option maxHeartbeats 4000000 in
theorem S_X12_count {a0 : Nat} {a1 : Int32} {h0 : PM} (r : Int32) (h' : PM) (hF : F_X12_count a0 a1 h0 = some (r, h')) : CN yX12_count cX12_count 4 (some .int) 0 0 0 [.ref a0, .int a1] h0 (some (.int r)) h' := by
  obtain ⟨X, eX⟩ : ∃ X, X = (r, h') := ⟨_, rfl⟩
  rw [← eX] at hF
  have e1 : r = X.1 := by rw [eX]
  have e2 : h' = X.2 := by rw [eX]
  rw [e1, e2]
  clear eX e1 e2
  unfold F_X12_count at hF
  refine CN_of (by decide) (fun ρ => Nat.le_of_ble_eq_true rfl) rfl ?_
  intro p l e s m args below meth c D cy base ρ hT C V hr hnm
  refine r_aload_n C dX12_count_0 rfl 0 rfl ?_
  refine r_iconst (v := 0) C dX12_count_1 (by decide) ?_
  refine k_pI C dX12_count_2 fd_X12_1 (fun z => by cases z) (by decide) hF (fun h1 hF => ?_)
  refine r_iload_n C dX12_count_5 rfl 1 rfl ?_
  by_cases q0 : a1 = 0
  · rw [if_pos q0] at hF
    refine r_tableIn (tgt := 52) C dX12_count_6 (by rw [q0]; decide) (by rw [q0]; decide) (by rw [q0] <;> rfl) (by decide) ?_
    refine r_aload_n C dX12_count_52 rfl 0 rfl ?_
    refine k_gI C dX12_count_53 fd_X12_126 (by decide) hF (fun x2 hF => ?_)
    exact k_iret C dX12_count_56 hr (by decide) (by decide) hF
  rw [if_neg q0] at hF
  by_cases q1 : a1 = 1
  · rw [if_pos q1] at hF
    refine r_tableIn (tgt := 57) C dX12_count_6 (by rw [q1]; decide) (by rw [q1]; decide) (by rw [q1] <;> rfl) (by decide) ?_
    refine r_aload_n C dX12_count_57 rfl 0 rfl ?_
    refine k_gI C dX12_count_58 fd_X12_174 (by decide) hF (fun x3 hF => ?_)
    exact k_iret C dX12_count_61 hr (by decide) (by decide) hF
  rw [if_neg q1] at hF
  by_cases q2 : a1 = 2
  · rw [if_pos q2] at hF
    refine r_tableIn (tgt := 62) C dX12_count_6 (by rw [q2]; decide) (by rw [q2]; decide) (by rw [q2] <;> rfl) (by decide) ?_
    refine r_aload_n C dX12_count_62 rfl 0 rfl ?_
    refine k_gI C dX12_count_63 fd_X12_239 (by decide) hF (fun x4 hF => ?_)
    exact k_iret C dX12_count_66 hr (by decide) (by decide) hF
  rw [if_neg q2] at hF
  by_cases q3 : a1 = 3
  · rw [if_pos q3] at hF
    refine r_tableIn (tgt := 67) C dX12_count_6 (by rw [q3]; decide) (by rw [q3]; decide) (by rw [q3] <;> rfl) (by decide) ?_
    refine r_aload_n C dX12_count_67 rfl 0 rfl ?_
    refine k_gI C dX12_count_68 fd_X12_283 (by decide) hF (fun x5 hF => ?_)
    exact k_iret C dX12_count_71 hr (by decide) (by decide) hF
  rw [if_neg q3] at hF
  by_cases q4 : a1 = 4
  · rw [if_pos q4] at hF
    refine r_tableIn (tgt := 72) C dX12_count_6 (by rw [q4]; decide) (by rw [q4]; decide) (by rw [q4] <;> rfl) (by decide) ?_
    refine r_aload_n C dX12_count_72 rfl 0 rfl ?_
    refine k_gI C dX12_count_73 fd_X12_287 (by decide) hF (fun x6 hF => ?_)
    exact k_iret C dX12_count_76 hr (by decide) (by decide) hF
  rw [if_neg q4] at hF
  by_cases q5 : a1 = 5
  · rw [if_pos q5] at hF
    refine r_tableIn (tgt := 77) C dX12_count_6 (by rw [q5]; decide) (by rw [q5]; decide) (by rw [q5] <;> rfl) (by decide) ?_
    refine r_aload_n C dX12_count_77 rfl 0 rfl ?_
    refine k_gI C dX12_count_78 fd_X12_183 (by decide) hF (fun x7 hF => ?_)
    exact k_iret C dX12_count_81 hr (by decide) (by decide) hF
  rw [if_neg q5] at hF
  by_cases q6 : a1 = 6
  · rw [if_pos q6] at hF
    refine r_tableIn (tgt := 82) C dX12_count_6 (by rw [q6]; decide) (by rw [q6]; decide) (by rw [q6] <;> rfl) (by decide) ?_
    refine r_aload_n C dX12_count_82 rfl 0 rfl ?_
    refine k_gI C dX12_count_83 fd_X12_143 (by decide) hF (fun x8 hF => ?_)
    exact k_iret C dX12_count_86 hr (by decide) (by decide) hF
  rw [if_neg q6] at hF
  by_cases q7 : a1 = 7
  · rw [if_pos q7] at hF
    refine r_tableIn (tgt := 87) C dX12_count_6 (by rw [q7]; decide) (by rw [q7]; decide) (by rw [q7] <;> rfl) (by decide) ?_
    refine r_iconst (v := 0) C dX12_count_87 (by decide) ?_
    refine r_istore_n C dX12_count_88 rfl (by decide) rfl ?_
    refine r_iconst (v := 0) C dX12_count_89 (by decide) ?_
    refine r_istore_n C dX12_count_90 rfl (by decide) rfl ?_
    obtain ⟨k123, ek123, hF⟩ := jn_some hF
    have Jk123 : ∀ (v9 : Int32) (h10 : PM), k123 v9 h10 = some X → WP p l e (rmN 0 0 0) s m args below meth c D cy base ρ h0 0 0 4 (MQ below (QR D cy base ρ h0 (some (.int X.1)) X.2) args s 0 0 (fun q => base ≤ q)) 123 [(2, .int v9)] [] h10 := by
      intro v9 h10 hF
      rw [ek123] at hF
      refine r_iload_n C dX12_count_123 rfl 0 rfl ?_
      exact k_iret C dX12_count_124 hr (by decide) (by decide) hF
    have L91 : ∀ (fu : Nat) (v11 : Int32) (v12 : Int32) (h13 : PM), F_X12_count_L91 a0 k123 fu v11 v12 h13 = some X → WP p l e (rmN 0 0 0) s m args below meth c D cy base ρ h0 0 0 4 (MQ below (QR D cy base ρ h0 (some (.int X.1)) X.2) args s 0 0 (fun q => base ≤ q)) 91 [(0, .ref a0), (2, .int v11), (3, .int v12)] [] h13 := by
      intro fu
      induction fu with
      | zero => intro v11 v12 h13 hF; rw [F_X12_count_L91.eq_1] at hF; cases hF
      | succ fu ih =>
        intro v11 v12 h13 hF
        rw [F_X12_count_L91.eq_2] at hF
        refine r_iload_n C dX12_count_91 rfl 2 rfl ?_
        refine r_aload_n C dX12_count_92 rfl 0 rfl ?_
        refine k_gI C dX12_count_93 fd_X12_239 (by decide) hF (fun x14 hF => ?_)
        refine r_icmp_ge (tgt := 123) C dX12_count_96 (by decide) hF (fun hF => ?_) (fun hF => ?_)
        · exact r_sub [1] rfl (Jk123 _ _ hF)
        · refine r_iload_n C dX12_count_99 rfl 1 rfl ?_
          refine r_aload_n C dX12_count_100 rfl 0 rfl ?_
          refine k_gR C dX12_count_101 fd_X12_89 (by decide) hF (fun x15 hF => ?_)
          refine r_iload_n C dX12_count_104 rfl 2 rfl ?_
          refine k_aI C dX12_count_105 hF (fun x16 hF => ?_)
          refine r_iconst (v := (-1)) C dX12_count_106 (by decide) ?_
          obtain ⟨k115_19, ek115_19, hF⟩ := jn_some hF
          have Jk115_19 : ∀ (s17 : Int32) (s18 : Int32) (h20 : PM), k115_19 s17 s18 h20 = some X → WP p l e (rmN 0 0 0) s m args below meth c D cy base ρ h0 0 0 4 (MQ below (QR D cy base ρ h0 (some (.int X.1)) X.2) args s 0 0 (fun q => base ≤ q)) 115 [(0, .ref a0), (3, .int v12)] [.int s17, .int s18] h20 := by
            intro s17 s18 h20 hF
            rw [ek115_19] at hF
            refine r_iadd C dX12_count_115 ?_
            refine k_lti hF (fun x21 hF => ?_)
            refine r_istore_n C dX12_count_116 rfl (by decide) rfl ?_
            refine r_iinc (v := v12 + 1) C dX12_count_117 2 rfl (congrArg (fun z => v12 + z) (by decide)) (by decide) rfl ?_
            refine r_goto (tgt := 91) C dX12_count_120 (by decide) ?_
            exact r_sub [2, 1, 0] rfl (ih _ _ _ hF)
          refine r_icmp_eq (tgt := 114) C dX12_count_107 (by decide) hF (fun hF => ?_) (fun hF => ?_)
          · refine r_iconst (v := 0) C dX12_count_114 (by decide) ?_
            exact r_sub [0, 2] rfl (Jk115_19 _ _ _ hF)
          · refine r_iconst (v := 1) C dX12_count_110 (by decide) ?_
            refine r_goto (tgt := 115) C dX12_count_111 (by decide) ?_
            exact r_sub [0, 2] rfl (Jk115_19 _ _ _ hF)
    exact r_sub [2, 1, 0] rfl (L91 _ _ _ _ hF)
  rw [if_neg q7] at hF
  refine r_tableOut (tgt := 125) C dX12_count_6 ?_ (by decide) ?_
  · have z0 := sw_ne q0; have z1 := sw_ne q1; have z2 := sw_ne q2; have z3 := sw_ne q3; have z4 := sw_ne q4; have z5 := sw_ne q5; have z6 := sw_ne q6; have z7 := sw_ne q7
    have w0 : ((0 : Int32)).toInt = 0 := (by decide); have w1 : ((1 : Int32)).toInt = 1 := (by decide); have w2 : ((2 : Int32)).toInt = 2 := (by decide); have w3 : ((3 : Int32)).toInt = 3 := (by decide); have w4 : ((4 : Int32)).toInt = 4 := (by decide); have w5 : ((5 : Int32)).toInt = 5 := (by decide); have w6 : ((6 : Int32)).toInt = 6 := (by decide); have w7 : ((7 : Int32)).toInt = 7 := (by decide)
    omega
  · refine r_iconst (v := (-1)) C dX12_count_125 (by decide) ?_
    exact k_iret C dX12_count_126 hr (by decide) (by decide) hF
