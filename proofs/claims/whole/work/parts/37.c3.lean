theorem ml_X9_3 : Cond.methodLink RX9 3 objectInit ∈ gw := gwm 133 (by decide +kernel) rfl
theorem fd_X9_9 : FD RX9 9 10 0 true := ⟨_, _, _, cls_10, by decide, gwm 134 (by decide +kernel) rfl, rfl, fun _ => by first | rfl | contradiction⟩
theorem fd_X9_15 : FD RX9 15 10 1 false := ⟨_, _, _, cls_10, by decide, gwm 135 (by decide +kernel) rfl, rfl, fun _ => by first | rfl | contradiction⟩
theorem fd_X9_19 : FD RX9 19 10 2 false := ⟨_, _, _, cls_10, by decide, gwm 137 (by decide +kernel) rfl, rfl, fun _ => by first | rfl | contradiction⟩
theorem fd_X9_22 : FD RX9 22 10 3 false := ⟨_, _, _, cls_10, by decide, gwm 139 (by decide +kernel) rfl, rfl, fun _ => by first | rfl | contradiction⟩
theorem fd_X9_25 : FD RX9 25 10 4 false := ⟨_, _, _, cls_10, by decide, gwm 140 (by decide +kernel) rfl, rfl, fun _ => by first | rfl | contradiction⟩
theorem fd_X9_28 : FD RX9 28 10 5 true := ⟨_, _, _, cls_10, by decide, gwm 142 (by decide +kernel) rfl, rfl, fun _ => by first | rfl | contradiction⟩
theorem fd_X9_31 : FD RX9 31 10 6 true := ⟨_, _, _, cls_10, by decide, gwm 144 (by decide +kernel) rfl, rfl, fun _ => by first | rfl | contradiction⟩
theorem fd_X9_34 : FD RX9 34 10 7 true := ⟨_, _, _, cls_10, by decide, gwm 146 (by decide +kernel) rfl, rfl, fun _ => by first | rfl | contradiction⟩
theorem fd_X9_37 : FD RX9 37 10 8 true := ⟨_, _, _, cls_10, by decide, gwm 148 (by decide +kernel) rfl, rfl, fun _ => by first | rfl | contradiction⟩
theorem ml_X9_44 : Cond.methodLink RX9 44 yX9_isEnd ∈ gw := gwm 753 (by decide +kernel) rfl
theorem cal_X9_isEnd : Cal yX9_isEnd cX9_isEnd 1 (some .boolean) 0 := ⟨gwm 756 (by decide +kernel) rfl, gwm 68 (by decide +kernel) rfl, ⟨by decide, by decide, by decide +kernel⟩, by decide⟩
theorem im_X9_isEnd : Cond.instanceMethod yX9_isEnd ∈ gw := gwm 755 (by decide +kernel) rfl
theorem se_X9_isEnd : Cond.selects RX9 yX9_isEnd yX9_isEnd ∈ gw := gwm 16 (by decide +kernel) rfl
theorem ml_X9_51 : Cond.methodLink RX9 51 yX9_readDigit ∈ gw := gwm 749 (by decide +kernel) rfl
theorem cal_X9_readDigit : Cal yX9_readDigit cX9_readDigit 4 (some .int) 2 := ⟨gwm 752 (by decide +kernel) rfl, gwm 68 (by decide +kernel) rfl, ⟨by decide, by decide, by decide +kernel⟩, by decide⟩
theorem im_X9_readDigit : Cond.instanceMethod yX9_readDigit ∈ gw := gwm 751 (by decide +kernel) rfl
theorem se_X9_readDigit : Cond.selects RX9 yX9_readDigit yX9_readDigit ∈ gw := gwm 15 (by decide +kernel) rfl
theorem ml_X9_48 : Cond.methodLink RX9 48 yX9_readSign ∈ gw := gwm 757 (by decide +kernel) rfl
theorem cal_X9_readSign : Cal yX9_readSign cX9_readSign 2 (some .boolean) 1 := ⟨gwm 760 (by decide +kernel) rfl, gwm 68 (by decide +kernel) rfl, ⟨by decide, by decide, by decide +kernel⟩, by decide⟩
theorem im_X9_readSign : Cond.instanceMethod yX9_readSign ∈ gw := gwm 759 (by decide +kernel) rfl
theorem se_X9_readSign : Cond.selects RX9 yX9_readSign yX9_readSign ∈ gw := gwm 17 (by decide +kernel) rfl
theorem ml_X9_40 : Cond.methodLink RX9 40 yX9_readLayer ∈ gw := gwm 745 (by decide +kernel) rfl
theorem cal_X9_readLayer : Cal yX9_readLayer cX9_readLayer 2 (some .boolean) 1 := ⟨gwm 748 (by decide +kernel) rfl, gwm 68 (by decide +kernel) rfl, ⟨by decide, by decide, by decide +kernel⟩, by decide⟩
theorem im_X9_readLayer : Cond.instanceMethod yX9_readLayer ∈ gw := gwm 747 (by decide +kernel) rfl
theorem se_X9_readLayer : Cond.selects RX9 yX9_readLayer yX9_readLayer ∈ gw := gwm 14 (by decide +kernel) rfl
theorem ml_X10_3 : Cond.methodLink RX10 3 objectInit ∈ gw := gwm 283 (by decide +kernel) rfl
theorem fd_X10_11 : FD RX10 11 11 0 true := ⟨_, _, _, cls_11, by decide, gwm 284 (by decide +kernel) rfl, rfl, fun _ => by first | rfl | contradiction⟩
theorem fd_X10_15 : FD RX10 15 11 1 true := ⟨_, _, _, cls_11, by decide, gwm 285 (by decide +kernel) rfl, rfl, fun _ => by first | rfl | contradiction⟩
theorem fd_X10_18 : FD RX10 18 11 2 true := ⟨_, _, _, cls_11, by decide, gwm 286 (by decide +kernel) rfl, rfl, fun _ => by first | rfl | contradiction⟩
theorem mn_X10_37 : Cond.methodLinkNest RX10 37 yX11_holds "RoughStones" ∈ nw := nwm 1067 (by decide +kernel) rfl
theorem ml_X10_64 : Cond.methodLink RX10 64 yX10_through ∈ gw := gwm 1072 (by decide +kernel) rfl
theorem cal_X10_through : Cal yX10_through cX10_through 5 (some .int) 3 := ⟨gwm 1075 (by decide +kernel) rfl, gwm 73 (by decide +kernel) rfl, ⟨by decide, by decide, by decide +kernel⟩, by decide⟩
theorem im_X10_through : Cond.instanceMethod yX10_through ∈ gw := gwm 1074 (by decide +kernel) rfl
theorem se_X10_through : Cond.selects RX10 yX10_through yX10_through ∈ gw := gwm 32 (by decide +kernel) rfl
theorem ml_X10_41 : Cond.methodLink RX10 41 yX10_shortest ∈ gw := gwm 1068 (by decide +kernel) rfl
theorem cal_X10_shortest : Cal yX10_shortest cX10_shortest 7 (some .int) 3 := ⟨gwm 1071 (by decide +kernel) rfl, gwm 73 (by decide +kernel) rfl, ⟨by decide, by decide, by decide +kernel⟩, by decide⟩
theorem im_X10_shortest : Cond.instanceMethod yX10_shortest ∈ gw := gwm 1070 (by decide +kernel) rfl
theorem se_X10_shortest : Cond.selects RX10 yX10_shortest yX10_shortest ∈ gw := gwm 31 (by decide +kernel) rfl
theorem ml_X10_67 : Cond.methodLink RX10 67 yX10_firstOfShortest ∈ gw := gwm 1080 (by decide +kernel) rfl
theorem cal_X10_firstOfShortest : Cal yX10_firstOfShortest cX10_firstOfShortest 6 (some .int) 3 := ⟨gwm 1083 (by decide +kernel) rfl, gwm 73 (by decide +kernel) rfl, ⟨by decide, by decide, by decide +kernel⟩, by decide⟩
theorem im_X10_firstOfShortest : Cond.instanceMethod yX10_firstOfShortest ∈ gw := gwm 1082 (by decide +kernel) rfl
theorem se_X10_firstOfShortest : Cond.selects RX10 yX10_firstOfShortest yX10_firstOfShortest ∈ gw := gwm 34 (by decide +kernel) rfl
theorem fr_X10_70 : FDr RX10 70 9 12 := ⟨_, _, _, cls_9, by decide, gwm 1001 (by decide +kernel) rfl⟩
theorem mm_X10_60 : Cond.methodLink RX10 60 Lib.Math.abs.name ∈ gw := gwm 1066 (by decide +kernel) rfl
theorem mm_X10_27 : Cond.methodLink RX10 27 Lib.Math.min.name ∈ gw := gwm 1058 (by decide +kernel) rfl
theorem fr_X10_51 : FDr RX10 51 9 8 := ⟨_, _, _, cls_9, by decide, gwm 990 (by decide +kernel) rfl⟩
theorem fr_X10_54 : FDr RX10 54 9 9 := ⟨_, _, _, cls_9, by decide, gwm 993 (by decide +kernel) rfl⟩
theorem ml_X10_57 : Cond.methodLink RX10 57 yX10_way ∈ gw := gwm 1063 (by decide +kernel) rfl
theorem cal_X10_way : Cal yX10_way cX10_way 3 (some .int) 2 := ⟨gwm 1065 (by decide +kernel) rfl, gwm 73 (by decide +kernel) rfl, ⟨by decide, by decide, by decide +kernel⟩, by decide⟩
theorem sm_X10_way : Cond.static yX10_way ∈ gw := gwm 1064 (by decide +kernel) rfl
theorem fd_X10_21 : FD RX10 21 9 7 false := ⟨_, _, _, cls_9, by decide, gwm 987 (by decide +kernel) rfl, rfl, fun _ => by first | rfl | contradiction⟩
theorem ml_X10_33 : Cond.methodLink RX10 33 yX10_measure ∈ gw := gwm 1059 (by decide +kernel) rfl
theorem cal_X10_measure : Cal yX10_measure cX10_measure 5 none 2 := ⟨gwm 1062 (by decide +kernel) rfl, gwm 73 (by decide +kernel) rfl, ⟨by decide, by decide, by decide +kernel⟩, by decide⟩
theorem im_X10_measure : Cond.instanceMethod yX10_measure ∈ gw := gwm 1061 (by decide +kernel) rfl
theorem se_X10_measure : Cond.selects RX10 yX10_measure yX10_measure ∈ gw := gwm 30 (by decide +kernel) rfl
theorem fd_X10_45 : FD RX10 45 9 11 false := ⟨_, _, _, cls_9, by decide, gwm 998 (by decide +kernel) rfl, rfl, fun _ => by first | rfl | contradiction⟩
theorem ml_X10_48 : Cond.methodLink RX10 48 yX10_follow ∈ gw := gwm 1076 (by decide +kernel) rfl
theorem cal_X10_follow : Cal yX10_follow cX10_follow 7 none 2 := ⟨gwm 1079 (by decide +kernel) rfl, gwm 73 (by decide +kernel) rfl, ⟨by decide, by decide, by decide +kernel⟩, by decide⟩
theorem im_X10_follow : Cond.instanceMethod yX10_follow ∈ gw := gwm 1078 (by decide +kernel) rfl
theorem se_X10_follow : Cond.selects RX10 yX10_follow yX10_follow ∈ gw := gwm 33 (by decide +kernel) rfl
theorem dX9_init_0 : decode cX9_init 0 = .ok (.aload_n 0, 1) := by decide +kernel
theorem dX9_init_1 : decode cX9_init 1 = .ok (.invokespecial 3, 3) := by decide +kernel
theorem dX9_init_4 : decode cX9_init 4 = .ok (.aload_n 0, 1) := by decide +kernel
theorem dX9_init_5 : decode cX9_init 5 = .ok (.bipush 100, 2) := by decide +kernel
theorem dX9_init_7 : decode cX9_init 7 = .ok (.newarray .int, 2) := by decide +kernel
theorem dX9_init_9 : decode cX9_init 9 = .ok (.putfield 9, 3) := by decide +kernel
theorem dX9_init_12 : decode cX9_init 12 = .ok (.aload_n 0, 1) := by decide +kernel
theorem dX9_init_13 : decode cX9_init 13 = .ok (.iconst 0, 1) := by decide +kernel
theorem dX9_init_14 : decode cX9_init 14 = .ok (.putfield 15, 3) := by decide +kernel
theorem dX9_init_17 : decode cX9_init 17 = .ok (.aload_n 0, 1) := by decide +kernel
theorem dX9_init_18 : decode cX9_init 18 = .ok (.iconst 0, 1) := by decide +kernel
theorem dX9_init_19 : decode cX9_init 19 = .ok (.putfield 19, 3) := by decide +kernel
theorem dX9_init_22 : decode cX9_init 22 = .ok (.aload_n 0, 1) := by decide +kernel
theorem dX9_init_23 : decode cX9_init 23 = .ok (.iconst 0, 1) := by decide +kernel
theorem dX9_init_24 : decode cX9_init 24 = .ok (.putfield 22, 3) := by decide +kernel
theorem dX9_init_27 : decode cX9_init 27 = .ok (.aload_n 0, 1) := by decide +kernel
theorem dX9_init_28 : decode cX9_init 28 = .ok (.iconst 0, 1) := by decide +kernel
theorem dX9_init_29 : decode cX9_init 29 = .ok (.putfield 25, 3) := by decide +kernel
theorem dX9_init_32 : decode cX9_init 32 = .ok (.aload_n 0, 1) := by decide +kernel
theorem dX9_init_33 : decode cX9_init 33 = .ok (.bipush 6, 2) := by decide +kernel
theorem dX9_init_35 : decode cX9_init 35 = .ok (.newarray .int, 2) := by decide +kernel
theorem dX9_init_37 : decode cX9_init 37 = .ok (.putfield 28, 3) := by decide +kernel
theorem dX9_init_40 : decode cX9_init 40 = .ok (.aload_n 0, 1) := by decide +kernel
theorem dX9_init_41 : decode cX9_init 41 = .ok (.bipush 6, 2) := by decide +kernel
theorem dX9_init_43 : decode cX9_init 43 = .ok (.newarray .int, 2) := by decide +kernel
theorem dX9_init_45 : decode cX9_init 45 = .ok (.putfield 31, 3) := by decide +kernel
theorem dX9_init_48 : decode cX9_init 48 = .ok (.aload_n 0, 1) := by decide +kernel
theorem dX9_init_49 : decode cX9_init 49 = .ok (.bipush 6, 2) := by decide +kernel
theorem dX9_init_51 : decode cX9_init 51 = .ok (.newarray .int, 2) := by decide +kernel
theorem dX9_init_53 : decode cX9_init 53 = .ok (.putfield 34, 3) := by decide +kernel
theorem dX9_init_56 : decode cX9_init 56 = .ok (.aload_n 0, 1) := by decide +kernel
theorem dX9_init_57 : decode cX9_init 57 = .ok (.bipush 6, 2) := by decide +kernel
theorem dX9_init_59 : decode cX9_init 59 = .ok (.newarray .int, 2) := by decide +kernel
theorem dX9_init_61 : decode cX9_init 61 = .ok (.putfield 37, 3) := by decide +kernel
theorem dX9_init_64 : decode cX9_init 64 = .ok (.return_, 1) := by decide +kernel
theorem dX9_append_0 : decode cX9_append 0 = .ok (.bipush 24, 2) := by decide +kernel
theorem dX9_append_2 : decode cX9_append 2 = .ok (.istore_n 2, 1) := by decide +kernel
theorem dX9_append_3 : decode cX9_append 3 = .ok (.iload_n 2, 1) := by decide +kernel
theorem dX9_append_4 : decode cX9_append 4 = .ok (.ifCond .lt 44, 3) := by decide +kernel
theorem dX9_append_7 : decode cX9_append 7 = .ok (.aload_n 0, 1) := by decide +kernel
theorem dX9_append_8 : decode cX9_append 8 = .ok (.getfield 15, 3) := by decide +kernel
theorem dX9_append_11 : decode cX9_append 11 = .ok (.bipush 100, 2) := by decide +kernel
theorem dX9_append_13 : decode cX9_append 13 = .ok (.if_icmp .ge 35, 3) := by decide +kernel
theorem dX9_append_16 : decode cX9_append 16 = .ok (.aload_n 0, 1) := by decide +kernel
theorem dX9_append_17 : decode cX9_append 17 = .ok (.getfield 9, 3) := by decide +kernel
theorem dX9_append_20 : decode cX9_append 20 = .ok (.aload_n 0, 1) := by decide +kernel
theorem dX9_append_21 : decode cX9_append 21 = .ok (.getfield 15, 3) := by decide +kernel
theorem dX9_append_24 : decode cX9_append 24 = .ok (.iload_n 1, 1) := by decide +kernel
theorem dX9_append_25 : decode cX9_append 25 = .ok (.iload_n 2, 1) := by decide +kernel
theorem dX9_append_26 : decode cX9_append 26 = .ok (.iushr, 1) := by decide +kernel
theorem dX9_append_27 : decode cX9_append 27 = .ok (.sipush 255, 3) := by decide +kernel
theorem dX9_append_30 : decode cX9_append 30 = .ok (.iand, 1) := by decide +kernel
theorem dX9_append_31 : decode cX9_append 31 = .ok (.iastore, 1) := by decide +kernel
theorem dX9_append_32 : decode cX9_append 32 = .ok (.aload_n 0, 1) := by decide +kernel
theorem dX9_append_33 : decode cX9_append 33 = .ok (.dup, 1) := by decide +kernel
theorem dX9_append_34 : decode cX9_append 34 = .ok (.getfield 15, 3) := by decide +kernel
theorem dX9_append_37 : decode cX9_append 37 = .ok (.iconst 1, 1) := by decide +kernel
theorem dX9_append_38 : decode cX9_append 38 = .ok (.iadd, 1) := by decide +kernel
theorem dX9_append_39 : decode cX9_append 39 = .ok (.putfield 15, 3) := by decide +kernel
theorem dX9_append_42 : decode cX9_append 42 = .ok (.iinc 2 (-8), 3) := by decide +kernel
theorem dX9_append_45 : decode cX9_append 45 = .ok (.goto (-42), 3) := by decide +kernel
theorem dX9_append_48 : decode cX9_append 48 = .ok (.return_, 1) := by decide +kernel
theorem dX9_isEnd_0 : decode cX9_isEnd 0 = .ok (.aload_n 0, 1) := by decide +kernel
theorem dX9_isEnd_1 : decode cX9_isEnd 1 = .ok (.getfield 19, 3) := by decide +kernel
theorem dX9_isEnd_4 : decode cX9_isEnd 4 = .ok (.aload_n 0, 1) := by decide +kernel
theorem dX9_isEnd_5 : decode cX9_isEnd 5 = .ok (.getfield 22, 3) := by decide +kernel
theorem dX9_isEnd_8 : decode cX9_isEnd 8 = .ok (.if_icmp .ge 39, 3) := by decide +kernel
theorem dX9_isEnd_11 : decode cX9_isEnd 11 = .ok (.aload_n 0, 1) := by decide +kernel
theorem dX9_isEnd_12 : decode cX9_isEnd 12 = .ok (.getfield 19, 3) := by decide +kernel
theorem dX9_isEnd_15 : decode cX9_isEnd 15 = .ok (.bipush 100, 2) := by decide +kernel
theorem dX9_isEnd_17 : decode cX9_isEnd 17 = .ok (.if_icmp .ge 30, 3) := by decide +kernel
theorem dX9_isEnd_20 : decode cX9_isEnd 20 = .ok (.aload_n 0, 1) := by decide +kernel
theorem dX9_isEnd_21 : decode cX9_isEnd 21 = .ok (.getfield 9, 3) := by decide +kernel
theorem dX9_isEnd_24 : decode cX9_isEnd 24 = .ok (.aload_n 0, 1) := by decide +kernel
theorem dX9_isEnd_25 : decode cX9_isEnd 25 = .ok (.getfield 19, 3) := by decide +kernel
theorem dX9_isEnd_28 : decode cX9_isEnd 28 = .ok (.iaload, 1) := by decide +kernel
theorem dX9_isEnd_29 : decode cX9_isEnd 29 = .ok (.bipush 32, 2) := by decide +kernel
theorem dX9_isEnd_31 : decode cX9_isEnd 31 = .ok (.if_icmp .ne 16, 3) := by decide +kernel
theorem dX9_isEnd_34 : decode cX9_isEnd 34 = .ok (.aload_n 0, 1) := by decide +kernel
theorem dX9_isEnd_35 : decode cX9_isEnd 35 = .ok (.dup, 1) := by decide +kernel
theorem dX9_isEnd_36 : decode cX9_isEnd 36 = .ok (.getfield 19, 3) := by decide +kernel
theorem dX9_isEnd_39 : decode cX9_isEnd 39 = .ok (.iconst 1, 1) := by decide +kernel
theorem dX9_isEnd_40 : decode cX9_isEnd 40 = .ok (.iadd, 1) := by decide +kernel
theorem dX9_isEnd_41 : decode cX9_isEnd 41 = .ok (.putfield 19, 3) := by decide +kernel
theorem dX9_isEnd_44 : decode cX9_isEnd 44 = .ok (.goto (-44), 3) := by decide +kernel
theorem dX9_isEnd_47 : decode cX9_isEnd 47 = .ok (.aload_n 0, 1) := by decide +kernel
theorem dX9_isEnd_48 : decode cX9_isEnd 48 = .ok (.getfield 19, 3) := by decide +kernel
theorem dX9_isEnd_51 : decode cX9_isEnd 51 = .ok (.aload_n 0, 1) := by decide +kernel
theorem dX9_isEnd_52 : decode cX9_isEnd 52 = .ok (.getfield 22, 3) := by decide +kernel
theorem dX9_isEnd_55 : decode cX9_isEnd 55 = .ok (.if_icmp .ge 12, 3) := by decide +kernel
theorem dX9_isEnd_58 : decode cX9_isEnd 58 = .ok (.aload_n 0, 1) := by decide +kernel
theorem dX9_isEnd_59 : decode cX9_isEnd 59 = .ok (.getfield 19, 3) := by decide +kernel
theorem dX9_isEnd_62 : decode cX9_isEnd 62 = .ok (.bipush 100, 2) := by decide +kernel
theorem dX9_isEnd_64 : decode cX9_isEnd 64 = .ok (.if_icmp .lt 7, 3) := by decide +kernel
theorem dX9_isEnd_67 : decode cX9_isEnd 67 = .ok (.iconst 1, 1) := by decide +kernel
theorem dX9_isEnd_68 : decode cX9_isEnd 68 = .ok (.goto 4, 3) := by decide +kernel
theorem dX9_isEnd_71 : decode cX9_isEnd 71 = .ok (.iconst 0, 1) := by decide +kernel
theorem dX9_isEnd_72 : decode cX9_isEnd 72 = .ok (.ireturn, 1) := by decide +kernel
theorem dX9_readDigit_0 : decode cX9_readDigit 0 = .ok (.aload_n 0, 1) := by decide +kernel
theorem dX9_readDigit_1 : decode cX9_readDigit 1 = .ok (.invokevirtual 44, 3) := by decide +kernel
theorem dX9_readDigit_4 : decode cX9_readDigit 4 = .ok (.ifCond .eq 5, 3) := by decide +kernel
theorem dX9_readDigit_7 : decode cX9_readDigit 7 = .ok (.iconst (-1), 1) := by decide +kernel
theorem dX9_readDigit_8 : decode cX9_readDigit 8 = .ok (.ireturn, 1) := by decide +kernel
theorem dX9_readDigit_9 : decode cX9_readDigit 9 = .ok (.aload_n 0, 1) := by decide +kernel
theorem dX9_readDigit_10 : decode cX9_readDigit 10 = .ok (.getfield 9, 3) := by decide +kernel
theorem dX9_readDigit_13 : decode cX9_readDigit 13 = .ok (.aload_n 0, 1) := by decide +kernel
theorem dX9_readDigit_14 : decode cX9_readDigit 14 = .ok (.getfield 19, 3) := by decide +kernel
theorem dX9_readDigit_17 : decode cX9_readDigit 17 = .ok (.iaload, 1) := by decide +kernel
theorem dX9_readDigit_18 : decode cX9_readDigit 18 = .ok (.bipush 48, 2) := by decide +kernel
theorem dX9_readDigit_20 : decode cX9_readDigit 20 = .ok (.isub, 1) := by decide +kernel
theorem dX9_readDigit_21 : decode cX9_readDigit 21 = .ok (.istore_n 3, 1) := by decide +kernel
theorem dX9_readDigit_22 : decode cX9_readDigit 22 = .ok (.iload_n 3, 1) := by decide +kernel
theorem dX9_readDigit_23 : decode cX9_readDigit 23 = .ok (.iload_n 1, 1) := by decide +kernel
theorem dX9_readDigit_24 : decode cX9_readDigit 24 = .ok (.if_icmp .lt 8, 3) := by decide +kernel
theorem dX9_readDigit_27 : decode cX9_readDigit 27 = .ok (.iload_n 3, 1) := by decide +kernel
theorem dX9_readDigit_28 : decode cX9_readDigit 28 = .ok (.iload_n 2, 1) := by decide +kernel
theorem dX9_readDigit_29 : decode cX9_readDigit 29 = .ok (.if_icmp .le 5, 3) := by decide +kernel
theorem dX9_readDigit_32 : decode cX9_readDigit 32 = .ok (.iconst (-1), 1) := by decide +kernel
theorem dX9_readDigit_33 : decode cX9_readDigit 33 = .ok (.ireturn, 1) := by decide +kernel
theorem dX9_readDigit_34 : decode cX9_readDigit 34 = .ok (.aload_n 0, 1) := by decide +kernel
theorem dX9_readDigit_35 : decode cX9_readDigit 35 = .ok (.dup, 1) := by decide +kernel
theorem dX9_readDigit_36 : decode cX9_readDigit 36 = .ok (.getfield 19, 3) := by decide +kernel
theorem dX9_readDigit_39 : decode cX9_readDigit 39 = .ok (.iconst 1, 1) := by decide +kernel
theorem dX9_readDigit_40 : decode cX9_readDigit 40 = .ok (.iadd, 1) := by decide +kernel
theorem dX9_readDigit_41 : decode cX9_readDigit 41 = .ok (.putfield 19, 3) := by decide +kernel
theorem dX9_readDigit_44 : decode cX9_readDigit 44 = .ok (.iload_n 3, 1) := by decide +kernel
theorem dX9_readDigit_45 : decode cX9_readDigit 45 = .ok (.ireturn, 1) := by decide +kernel
theorem dX9_readSign_0 : decode cX9_readSign 0 = .ok (.aload_n 0, 1) := by decide +kernel
theorem dX9_readSign_1 : decode cX9_readSign 1 = .ok (.invokevirtual 44, 3) := by decide +kernel
theorem dX9_readSign_4 : decode cX9_readSign 4 = .ok (.ifCond .ne 16, 3) := by decide +kernel
theorem dX9_readSign_7 : decode cX9_readSign 7 = .ok (.aload_n 0, 1) := by decide +kernel
theorem dX9_readSign_8 : decode cX9_readSign 8 = .ok (.getfield 9, 3) := by decide +kernel
theorem dX9_readSign_11 : decode cX9_readSign 11 = .ok (.aload_n 0, 1) := by decide +kernel
theorem dX9_readSign_12 : decode cX9_readSign 12 = .ok (.getfield 19, 3) := by decide +kernel
theorem dX9_readSign_15 : decode cX9_readSign 15 = .ok (.iaload, 1) := by decide +kernel
theorem dX9_readSign_16 : decode cX9_readSign 16 = .ok (.iload_n 1, 1) := by decide +kernel
theorem dX9_readSign_17 : decode cX9_readSign 17 = .ok (.if_icmp .eq 5, 3) := by decide +kernel
theorem dX9_readSign_20 : decode cX9_readSign 20 = .ok (.iconst 0, 1) := by decide +kernel
theorem dX9_readSign_21 : decode cX9_readSign 21 = .ok (.ireturn, 1) := by decide +kernel
theorem dX9_readSign_22 : decode cX9_readSign 22 = .ok (.aload_n 0, 1) := by decide +kernel
theorem dX9_readSign_23 : decode cX9_readSign 23 = .ok (.dup, 1) := by decide +kernel
theorem dX9_readSign_24 : decode cX9_readSign 24 = .ok (.getfield 19, 3) := by decide +kernel
theorem dX9_readSign_27 : decode cX9_readSign 27 = .ok (.iconst 1, 1) := by decide +kernel
theorem dX9_readSign_28 : decode cX9_readSign 28 = .ok (.iadd, 1) := by decide +kernel
theorem dX9_readSign_29 : decode cX9_readSign 29 = .ok (.putfield 19, 3) := by decide +kernel
theorem dX9_readSign_32 : decode cX9_readSign 32 = .ok (.iconst 1, 1) := by decide +kernel
theorem dX9_readSign_33 : decode cX9_readSign 33 = .ok (.ireturn, 1) := by decide +kernel
theorem dX9_readLayer_0 : decode cX9_readLayer 0 = .ok (.aload_n 0, 1) := by decide +kernel
theorem dX9_readLayer_1 : decode cX9_readLayer 1 = .ok (.getfield 34, 3) := by decide +kernel
theorem dX9_readLayer_4 : decode cX9_readLayer 4 = .ok (.iload_n 1, 1) := by decide +kernel
theorem dX9_readLayer_5 : decode cX9_readLayer 5 = .ok (.aload_n 0, 1) := by decide +kernel
theorem dX9_readLayer_6 : decode cX9_readLayer 6 = .ok (.iconst 1, 1) := by decide +kernel
theorem dX9_readLayer_7 : decode cX9_readLayer 7 = .ok (.bipush 6, 2) := by decide +kernel
theorem dX9_readLayer_9 : decode cX9_readLayer 9 = .ok (.invokevirtual 51, 3) := by decide +kernel
theorem dX9_readLayer_12 : decode cX9_readLayer 12 = .ok (.iastore, 1) := by decide +kernel
theorem dX9_readLayer_13 : decode cX9_readLayer 13 = .ok (.aload_n 0, 1) := by decide +kernel
theorem dX9_readLayer_14 : decode cX9_readLayer 14 = .ok (.getfield 34, 3) := by decide +kernel
theorem dX9_readLayer_17 : decode cX9_readLayer 17 = .ok (.iload_n 1, 1) := by decide +kernel
theorem dX9_readLayer_18 : decode cX9_readLayer 18 = .ok (.iaload, 1) := by decide +kernel
theorem dX9_readLayer_19 : decode cX9_readLayer 19 = .ok (.iconst (-1), 1) := by decide +kernel
theorem dX9_readLayer_20 : decode cX9_readLayer 20 = .ok (.if_icmp .eq 12, 3) := by decide +kernel
theorem dX9_readLayer_23 : decode cX9_readLayer 23 = .ok (.aload_n 0, 1) := by decide +kernel
theorem dX9_readLayer_24 : decode cX9_readLayer 24 = .ok (.bipush 120, 2) := by decide +kernel
theorem dX9_readLayer_26 : decode cX9_readLayer 26 = .ok (.invokevirtual 48, 3) := by decide +kernel
theorem dX9_readLayer_29 : decode cX9_readLayer 29 = .ok (.ifCond .ne 5, 3) := by decide +kernel
theorem dX9_readLayer_32 : decode cX9_readLayer 32 = .ok (.iconst 0, 1) := by decide +kernel
theorem dX9_readLayer_33 : decode cX9_readLayer 33 = .ok (.ireturn, 1) := by decide +kernel
theorem dX9_readLayer_34 : decode cX9_readLayer 34 = .ok (.aload_n 0, 1) := by decide +kernel
theorem dX9_readLayer_35 : decode cX9_readLayer 35 = .ok (.getfield 37, 3) := by decide +kernel
theorem dX9_readLayer_38 : decode cX9_readLayer 38 = .ok (.iload_n 1, 1) := by decide +kernel
theorem dX9_readLayer_39 : decode cX9_readLayer 39 = .ok (.aload_n 0, 1) := by decide +kernel
theorem dX9_readLayer_40 : decode cX9_readLayer 40 = .ok (.iconst 1, 1) := by decide +kernel
theorem dX9_readLayer_41 : decode cX9_readLayer 41 = .ok (.bipush 6, 2) := by decide +kernel
theorem dX9_readLayer_43 : decode cX9_readLayer 43 = .ok (.invokevirtual 51, 3) := by decide +kernel
theorem dX9_readLayer_46 : decode cX9_readLayer 46 = .ok (.iastore, 1) := by decide +kernel
theorem dX9_readLayer_47 : decode cX9_readLayer 47 = .ok (.aload_n 0, 1) := by decide +kernel
theorem dX9_readLayer_48 : decode cX9_readLayer 48 = .ok (.getfield 37, 3) := by decide +kernel
theorem dX9_readLayer_51 : decode cX9_readLayer 51 = .ok (.iload_n 1, 1) := by decide +kernel
theorem dX9_readLayer_52 : decode cX9_readLayer 52 = .ok (.iaload, 1) := by decide +kernel
theorem dX9_readLayer_53 : decode cX9_readLayer 53 = .ok (.iconst (-1), 1) := by decide +kernel
theorem dX9_readLayer_54 : decode cX9_readLayer 54 = .ok (.if_icmp .eq 12, 3) := by decide +kernel
theorem dX9_readLayer_57 : decode cX9_readLayer 57 = .ok (.aload_n 0, 1) := by decide +kernel
theorem dX9_readLayer_58 : decode cX9_readLayer 58 = .ok (.bipush 64, 2) := by decide +kernel
theorem dX9_readLayer_60 : decode cX9_readLayer 60 = .ok (.invokevirtual 48, 3) := by decide +kernel
theorem dX9_readLayer_63 : decode cX9_readLayer 63 = .ok (.ifCond .ne 5, 3) := by decide +kernel
theorem dX9_readLayer_66 : decode cX9_readLayer 66 = .ok (.iconst 0, 1) := by decide +kernel
theorem dX9_readLayer_67 : decode cX9_readLayer 67 = .ok (.ireturn, 1) := by decide +kernel
theorem dX9_readLayer_68 : decode cX9_readLayer 68 = .ok (.aload_n 0, 1) := by decide +kernel
theorem dX9_readLayer_69 : decode cX9_readLayer 69 = .ok (.getfield 28, 3) := by decide +kernel
theorem dX9_readLayer_72 : decode cX9_readLayer 72 = .ok (.iload_n 1, 1) := by decide +kernel
theorem dX9_readLayer_73 : decode cX9_readLayer 73 = .ok (.aload_n 0, 1) := by decide +kernel
theorem dX9_readLayer_74 : decode cX9_readLayer 74 = .ok (.iconst 0, 1) := by decide +kernel
theorem dX9_readLayer_75 : decode cX9_readLayer 75 = .ok (.bipush 6, 2) := by decide +kernel
theorem dX9_readLayer_77 : decode cX9_readLayer 77 = .ok (.aload_n 0, 1) := by decide +kernel
theorem dX9_readLayer_78 : decode cX9_readLayer 78 = .ok (.getfield 34, 3) := by decide +kernel
theorem dX9_readLayer_81 : decode cX9_readLayer 81 = .ok (.iload_n 1, 1) := by decide +kernel
theorem dX9_readLayer_82 : decode cX9_readLayer 82 = .ok (.iaload, 1) := by decide +kernel
theorem dX9_readLayer_83 : decode cX9_readLayer 83 = .ok (.isub, 1) := by decide +kernel
theorem dX9_readLayer_84 : decode cX9_readLayer 84 = .ok (.invokevirtual 51, 3) := by decide +kernel
theorem dX9_readLayer_87 : decode cX9_readLayer 87 = .ok (.iastore, 1) := by decide +kernel
theorem dX9_readLayer_88 : decode cX9_readLayer 88 = .ok (.aload_n 0, 1) := by decide +kernel
theorem dX9_readLayer_89 : decode cX9_readLayer 89 = .ok (.getfield 28, 3) := by decide +kernel
theorem dX9_readLayer_92 : decode cX9_readLayer 92 = .ok (.iload_n 1, 1) := by decide +kernel
theorem dX9_readLayer_93 : decode cX9_readLayer 93 = .ok (.iaload, 1) := by decide +kernel
theorem dX9_readLayer_94 : decode cX9_readLayer 94 = .ok (.iconst (-1), 1) := by decide +kernel
theorem dX9_readLayer_95 : decode cX9_readLayer 95 = .ok (.if_icmp .eq 12, 3) := by decide +kernel
theorem dX9_readLayer_98 : decode cX9_readLayer 98 = .ok (.aload_n 0, 1) := by decide +kernel
theorem dX9_readLayer_99 : decode cX9_readLayer 99 = .ok (.bipush 44, 2) := by decide +kernel
theorem dX9_readLayer_101 : decode cX9_readLayer 101 = .ok (.invokevirtual 48, 3) := by decide +kernel
theorem dX9_readLayer_104 : decode cX9_readLayer 104 = .ok (.ifCond .ne 5, 3) := by decide +kernel
theorem dX9_readLayer_107 : decode cX9_readLayer 107 = .ok (.iconst 0, 1) := by decide +kernel
theorem dX9_readLayer_108 : decode cX9_readLayer 108 = .ok (.ireturn, 1) := by decide +kernel
theorem dX9_readLayer_109 : decode cX9_readLayer 109 = .ok (.aload_n 0, 1) := by decide +kernel
theorem dX9_readLayer_110 : decode cX9_readLayer 110 = .ok (.getfield 31, 3) := by decide +kernel
theorem dX9_readLayer_113 : decode cX9_readLayer 113 = .ok (.iload_n 1, 1) := by decide +kernel
theorem dX9_readLayer_114 : decode cX9_readLayer 114 = .ok (.aload_n 0, 1) := by decide +kernel
theorem dX9_readLayer_115 : decode cX9_readLayer 115 = .ok (.iconst 0, 1) := by decide +kernel
theorem dX9_readLayer_116 : decode cX9_readLayer 116 = .ok (.bipush 6, 2) := by decide +kernel
theorem dX9_readLayer_118 : decode cX9_readLayer 118 = .ok (.aload_n 0, 1) := by decide +kernel
theorem dX9_readLayer_119 : decode cX9_readLayer 119 = .ok (.getfield 37, 3) := by decide +kernel
theorem dX9_readLayer_122 : decode cX9_readLayer 122 = .ok (.iload_n 1, 1) := by decide +kernel
theorem dX9_readLayer_123 : decode cX9_readLayer 123 = .ok (.iaload, 1) := by decide +kernel
theorem dX9_readLayer_124 : decode cX9_readLayer 124 = .ok (.isub, 1) := by decide +kernel
theorem dX9_readLayer_125 : decode cX9_readLayer 125 = .ok (.invokevirtual 51, 3) := by decide +kernel
theorem dX9_readLayer_128 : decode cX9_readLayer 128 = .ok (.iastore, 1) := by decide +kernel
theorem dX9_readLayer_129 : decode cX9_readLayer 129 = .ok (.aload_n 0, 1) := by decide +kernel
theorem dX9_readLayer_130 : decode cX9_readLayer 130 = .ok (.getfield 31, 3) := by decide +kernel
theorem dX9_readLayer_133 : decode cX9_readLayer 133 = .ok (.iload_n 1, 1) := by decide +kernel
theorem dX9_readLayer_134 : decode cX9_readLayer 134 = .ok (.iaload, 1) := by decide +kernel
theorem dX9_readLayer_135 : decode cX9_readLayer 135 = .ok (.iconst (-1), 1) := by decide +kernel
theorem dX9_readLayer_136 : decode cX9_readLayer 136 = .ok (.if_icmp .eq 7, 3) := by decide +kernel
theorem dX9_readLayer_139 : decode cX9_readLayer 139 = .ok (.iconst 1, 1) := by decide +kernel
theorem dX9_readLayer_140 : decode cX9_readLayer 140 = .ok (.goto 4, 3) := by decide +kernel
theorem dX9_readLayer_143 : decode cX9_readLayer 143 = .ok (.iconst 0, 1) := by decide +kernel
theorem dX9_readLayer_144 : decode cX9_readLayer 144 = .ok (.ireturn, 1) := by decide +kernel
theorem dX9_readModel_0 : decode cX9_readModel 0 = .ok (.aload_n 0, 1) := by decide +kernel
theorem dX9_readModel_1 : decode cX9_readModel 1 = .ok (.iconst 0, 1) := by decide +kernel
theorem dX9_readModel_2 : decode cX9_readModel 2 = .ok (.putfield 19, 3) := by decide +kernel
theorem dX9_readModel_5 : decode cX9_readModel 5 = .ok (.aload_n 0, 1) := by decide +kernel
theorem dX9_readModel_6 : decode cX9_readModel 6 = .ok (.iload_n 1, 1) := by decide +kernel
theorem dX9_readModel_7 : decode cX9_readModel 7 = .ok (.putfield 22, 3) := by decide +kernel
theorem dX9_readModel_10 : decode cX9_readModel 10 = .ok (.iconst 0, 1) := by decide +kernel
theorem dX9_readModel_11 : decode cX9_readModel 11 = .ok (.istore_n 2, 1) := by decide +kernel
theorem dX9_readModel_12 : decode cX9_readModel 12 = .ok (.iload_n 2, 1) := by decide +kernel
theorem dX9_readModel_13 : decode cX9_readModel 13 = .ok (.bipush 6, 2) := by decide +kernel
theorem dX9_readModel_15 : decode cX9_readModel 15 = .ok (.if_icmp .ge 55, 3) := by decide +kernel
theorem dX9_readModel_18 : decode cX9_readModel 18 = .ok (.aload_n 0, 1) := by decide +kernel
theorem dX9_readModel_19 : decode cX9_readModel 19 = .ok (.iload_n 2, 1) := by decide +kernel
theorem dX9_readModel_20 : decode cX9_readModel 20 = .ok (.invokevirtual 40, 3) := by decide +kernel
theorem dX9_readModel_23 : decode cX9_readModel 23 = .ok (.ifCond .ne 5, 3) := by decide +kernel
theorem dX9_readModel_26 : decode cX9_readModel 26 = .ok (.iconst 0, 1) := by decide +kernel
theorem dX9_readModel_27 : decode cX9_readModel 27 = .ok (.ireturn, 1) := by decide +kernel
theorem dX9_readModel_28 : decode cX9_readModel 28 = .ok (.aload_n 0, 1) := by decide +kernel
theorem dX9_readModel_29 : decode cX9_readModel 29 = .ok (.iload_n 2, 1) := by decide +kernel
theorem dX9_readModel_30 : decode cX9_readModel 30 = .ok (.iconst 1, 1) := by decide +kernel
theorem dX9_readModel_31 : decode cX9_readModel 31 = .ok (.iadd, 1) := by decide +kernel
theorem dX9_readModel_32 : decode cX9_readModel 32 = .ok (.putfield 25, 3) := by decide +kernel
theorem dX9_readModel_35 : decode cX9_readModel 35 = .ok (.aload_n 0, 1) := by decide +kernel
theorem dX9_readModel_36 : decode cX9_readModel 36 = .ok (.invokevirtual 44, 3) := by decide +kernel
theorem dX9_readModel_39 : decode cX9_readModel 39 = .ok (.ifCond .eq 5, 3) := by decide +kernel
theorem dX9_readModel_42 : decode cX9_readModel 42 = .ok (.iconst 1, 1) := by decide +kernel
theorem dX9_readModel_43 : decode cX9_readModel 43 = .ok (.ireturn, 1) := by decide +kernel
theorem dX9_readModel_44 : decode cX9_readModel 44 = .ok (.aload_n 0, 1) := by decide +kernel
theorem dX9_readModel_45 : decode cX9_readModel 45 = .ok (.getfield 25, 3) := by decide +kernel
theorem dX9_readModel_48 : decode cX9_readModel 48 = .ok (.bipush 6, 2) := by decide +kernel
theorem dX9_readModel_50 : decode cX9_readModel 50 = .ok (.if_icmp .ge 14, 3) := by decide +kernel
theorem dX9_readModel_53 : decode cX9_readModel 53 = .ok (.aload_n 0, 1) := by decide +kernel
theorem dX9_readModel_54 : decode cX9_readModel 54 = .ok (.bipush 59, 2) := by decide +kernel
theorem dX9_readModel_56 : decode cX9_readModel 56 = .ok (.invokevirtual 48, 3) := by decide +kernel
theorem dX9_readModel_59 : decode cX9_readModel 59 = .ok (.ifCond .ne 5, 3) := by decide +kernel
theorem dX9_readModel_62 : decode cX9_readModel 62 = .ok (.iconst 0, 1) := by decide +kernel
theorem dX9_readModel_63 : decode cX9_readModel 63 = .ok (.ireturn, 1) := by decide +kernel
theorem dX9_readModel_64 : decode cX9_readModel 64 = .ok (.iinc 2 1, 3) := by decide +kernel
theorem dX9_readModel_67 : decode cX9_readModel 67 = .ok (.goto (-55), 3) := by decide +kernel
theorem dX9_readModel_70 : decode cX9_readModel 70 = .ok (.iconst 0, 1) := by decide +kernel
theorem dX9_readModel_71 : decode cX9_readModel 71 = .ok (.ireturn, 1) := by decide +kernel
theorem dX10_init_0 : decode cX10_init 0 = .ok (.aload_n 0, 1) := by decide +kernel
theorem dX10_init_1 : decode cX10_init 1 = .ok (.invokespecial 3, 3) := by decide +kernel
theorem dX10_init_4 : decode cX10_init 4 = .ok (.aload_n 0, 1) := by decide +kernel
theorem dX10_init_5 : decode cX10_init 5 = .ok (.sipush 2048, 3) := by decide +kernel
theorem dX10_init_8 : decode cX10_init 8 = .ok (.newarray .int, 2) := by decide +kernel
theorem dX10_init_10 : decode cX10_init 10 = .ok (.putfield 11, 3) := by decide +kernel
theorem dX10_init_13 : decode cX10_init 13 = .ok (.aload_n 0, 1) := by decide +kernel
theorem dX10_init_14 : decode cX10_init 14 = .ok (.bipush 64, 2) := by decide +kernel
theorem dX10_init_16 : decode cX10_init 16 = .ok (.newarray .int, 2) := by decide +kernel
theorem dX10_init_18 : decode cX10_init 18 = .ok (.putfield 15, 3) := by decide +kernel
theorem dX10_init_21 : decode cX10_init 21 = .ok (.aload_n 0, 1) := by decide +kernel
theorem dX10_init_22 : decode cX10_init 22 = .ok (.bipush 8, 2) := by decide +kernel
theorem dX10_init_24 : decode cX10_init 24 = .ok (.newarray .int, 2) := by decide +kernel
theorem dX10_init_26 : decode cX10_init 26 = .ok (.putfield 18, 3) := by decide +kernel
theorem dX10_init_29 : decode cX10_init 29 = .ok (.return_, 1) := by decide +kernel
theorem dX10_through_0 : decode cX10_through 0 = .ok (.iload_n 2, 1) := by decide +kernel
theorem dX10_through_1 : decode cX10_through 1 = .ok (.iconst (-1), 1) := by decide +kernel
theorem dX10_through_2 : decode cX10_through 2 = .ok (.if_icmp .ne 12, 3) := by decide +kernel
theorem dX10_through_5 : decode cX10_through 5 = .ok (.aload_n 0, 1) := by decide +kernel
theorem dX10_through_6 : decode cX10_through 6 = .ok (.getfield 18, 3) := by decide +kernel
theorem dX10_through_9 : decode cX10_through 9 = .ok (.iload_n 3, 1) := by decide +kernel
theorem dX10_through_10 : decode cX10_through 10 = .ok (.iaload, 1) := by decide +kernel
theorem dX10_through_11 : decode cX10_through 11 = .ok (.goto 14, 3) := by decide +kernel
theorem dX10_through_14 : decode cX10_through 14 = .ok (.aload_n 0, 1) := by decide +kernel
theorem dX10_through_15 : decode cX10_through 15 = .ok (.getfield 15, 3) := by decide +kernel
theorem dX10_through_18 : decode cX10_through 18 = .ok (.iload_n 2, 1) := by decide +kernel
theorem dX10_through_19 : decode cX10_through 19 = .ok (.bipush 8, 2) := by decide +kernel
theorem dX10_through_21 : decode cX10_through 21 = .ok (.imul, 1) := by decide +kernel
theorem dX10_through_22 : decode cX10_through 22 = .ok (.iload_n 3, 1) := by decide +kernel
theorem dX10_through_23 : decode cX10_through 23 = .ok (.iadd, 1) := by decide +kernel
theorem dX10_through_24 : decode cX10_through 24 = .ok (.iaload, 1) := by decide +kernel
theorem dX10_through_25 : decode cX10_through 25 = .ok (.istore 4, 2) := by decide +kernel
theorem dX10_through_27 : decode cX10_through 27 = .ok (.iload 4, 2) := by decide +kernel
theorem dX10_through_29 : decode cX10_through 29 = .ok (.aload_n 0, 1) := by decide +kernel
theorem dX10_through_30 : decode cX10_through 30 = .ok (.getfield 11, 3) := by decide +kernel
theorem dX10_through_33 : decode cX10_through 33 = .ok (.iload_n 1, 1) := by decide +kernel
theorem dX10_through_34 : decode cX10_through 34 = .ok (.iconst 1, 1) := by decide +kernel
theorem dX10_through_35 : decode cX10_through 35 = .ok (.iload_n 3, 1) := by decide +kernel
theorem dX10_through_36 : decode cX10_through 36 = .ok (.ishl, 1) := by decide +kernel
theorem dX10_through_37 : decode cX10_through 37 = .ok (.ior, 1) := by decide +kernel
theorem dX10_through_38 : decode cX10_through 38 = .ok (.bipush 8, 2) := by decide +kernel
theorem dX10_through_40 : decode cX10_through 40 = .ok (.imul, 1) := by decide +kernel
theorem dX10_through_41 : decode cX10_through 41 = .ok (.iload_n 3, 1) := by decide +kernel
theorem dX10_through_42 : decode cX10_through 42 = .ok (.iadd, 1) := by decide +kernel
theorem dX10_through_43 : decode cX10_through 43 = .ok (.iaload, 1) := by decide +kernel
theorem dX10_through_44 : decode cX10_through 44 = .ok (.iadd, 1) := by decide +kernel
theorem dX10_through_45 : decode cX10_through 45 = .ok (.ireturn, 1) := by decide +kernel
theorem dX10_shortest_0 : decode cX10_shortest 0 = .ok (.iconst (-1), 1) := by decide +kernel
theorem dX10_shortest_1 : decode cX10_shortest 1 = .ok (.istore 4, 2) := by decide +kernel
theorem dX10_shortest_3 : decode cX10_shortest 3 = .ok (.iconst 0, 1) := by decide +kernel
theorem dX10_shortest_4 : decode cX10_shortest 4 = .ok (.istore 5, 2) := by decide +kernel
theorem dX10_shortest_6 : decode cX10_shortest 6 = .ok (.iload 5, 2) := by decide +kernel
theorem dX10_shortest_8 : decode cX10_shortest 8 = .ok (.iload_n 3, 1) := by decide +kernel
theorem dX10_shortest_9 : decode cX10_shortest 9 = .ok (.if_icmp .ge 51, 3) := by decide +kernel
theorem dX10_shortest_12 : decode cX10_shortest 12 = .ok (.iload_n 1, 1) := by decide +kernel
theorem dX10_shortest_13 : decode cX10_shortest 13 = .ok (.i2l, 1) := by decide +kernel
theorem dX10_shortest_14 : decode cX10_shortest 14 = .ok (.iload 5, 2) := by decide +kernel
theorem dX10_shortest_16 : decode cX10_shortest 16 = .ok (.invokestatic 37, 3) := by decide +kernel
theorem dX10_shortest_19 : decode cX10_shortest 19 = .ok (.ifCond .ne 35, 3) := by decide +kernel
theorem dX10_shortest_22 : decode cX10_shortest 22 = .ok (.aload_n 0, 1) := by decide +kernel
theorem dX10_shortest_23 : decode cX10_shortest 23 = .ok (.iload_n 1, 1) := by decide +kernel
theorem dX10_shortest_24 : decode cX10_shortest 24 = .ok (.iload_n 2, 1) := by decide +kernel
theorem dX10_shortest_25 : decode cX10_shortest 25 = .ok (.iload 5, 2) := by decide +kernel
theorem dX10_shortest_27 : decode cX10_shortest 27 = .ok (.invokevirtual 64, 3) := by decide +kernel
theorem dX10_shortest_30 : decode cX10_shortest 30 = .ok (.istore 6, 2) := by decide +kernel
theorem dX10_shortest_32 : decode cX10_shortest 32 = .ok (.iload 4, 2) := by decide +kernel
theorem dX10_shortest_34 : decode cX10_shortest 34 = .ok (.iconst (-1), 1) := by decide +kernel
theorem dX10_shortest_35 : decode cX10_shortest 35 = .ok (.if_icmp .eq 10, 3) := by decide +kernel
theorem dX10_shortest_38 : decode cX10_shortest 38 = .ok (.iload 6, 2) := by decide +kernel
theorem dX10_shortest_40 : decode cX10_shortest 40 = .ok (.iload 4, 2) := by decide +kernel
theorem dX10_shortest_42 : decode cX10_shortest 42 = .ok (.if_icmp .ge 8, 3) := by decide +kernel
theorem dX10_shortest_45 : decode cX10_shortest 45 = .ok (.iload 6, 2) := by decide +kernel
theorem dX10_shortest_47 : decode cX10_shortest 47 = .ok (.goto 5, 3) := by decide +kernel
theorem dX10_shortest_50 : decode cX10_shortest 50 = .ok (.iload 4, 2) := by decide +kernel
theorem dX10_shortest_52 : decode cX10_shortest 52 = .ok (.istore 4, 2) := by decide +kernel
theorem dX10_shortest_54 : decode cX10_shortest 54 = .ok (.iinc 5 1, 3) := by decide +kernel
theorem dX10_shortest_57 : decode cX10_shortest 57 = .ok (.goto (-51), 3) := by decide +kernel
theorem dX10_shortest_60 : decode cX10_shortest 60 = .ok (.iload 4, 2) := by decide +kernel
theorem dX10_shortest_62 : decode cX10_shortest 62 = .ok (.iconst (-1), 1) := by decide +kernel
theorem dX10_shortest_63 : decode cX10_shortest 63 = .ok (.if_icmp .ne 7, 3) := by decide +kernel
theorem dX10_shortest_66 : decode cX10_shortest 66 = .ok (.iconst 0, 1) := by decide +kernel
theorem dX10_shortest_67 : decode cX10_shortest 67 = .ok (.goto 5, 3) := by decide +kernel
theorem dX10_shortest_70 : decode cX10_shortest 70 = .ok (.iload 4, 2) := by decide +kernel
theorem dX10_shortest_72 : decode cX10_shortest 72 = .ok (.ireturn, 1) := by decide +kernel
theorem dX10_firstOfShortest_0 : decode cX10_firstOfShortest 0 = .ok (.aload_n 0, 1) := by decide +kernel
theorem dX10_firstOfShortest_1 : decode cX10_firstOfShortest 1 = .ok (.iload_n 1, 1) := by decide +kernel
theorem dX10_firstOfShortest_2 : decode cX10_firstOfShortest 2 = .ok (.iload_n 2, 1) := by decide +kernel
theorem dX10_firstOfShortest_3 : decode cX10_firstOfShortest 3 = .ok (.iload_n 3, 1) := by decide +kernel
theorem dX10_firstOfShortest_4 : decode cX10_firstOfShortest 4 = .ok (.invokevirtual 41, 3) := by decide +kernel
theorem dX10_firstOfShortest_7 : decode cX10_firstOfShortest 7 = .ok (.istore 4, 2) := by decide +kernel
theorem dX10_firstOfShortest_9 : decode cX10_firstOfShortest 9 = .ok (.iconst 0, 1) := by decide +kernel
theorem dX10_firstOfShortest_10 : decode cX10_firstOfShortest 10 = .ok (.istore 5, 2) := by decide +kernel
theorem dX10_firstOfShortest_12 : decode cX10_firstOfShortest 12 = .ok (.iload 5, 2) := by decide +kernel
theorem dX10_firstOfShortest_14 : decode cX10_firstOfShortest 14 = .ok (.iload_n 3, 1) := by decide +kernel
theorem dX10_firstOfShortest_15 : decode cX10_firstOfShortest 15 = .ok (.iconst 1, 1) := by decide +kernel
theorem dX10_firstOfShortest_16 : decode cX10_firstOfShortest 16 = .ok (.isub, 1) := by decide +kernel
theorem dX10_firstOfShortest_17 : decode cX10_firstOfShortest 17 = .ok (.if_icmp .ge 32, 3) := by decide +kernel
theorem dX10_firstOfShortest_20 : decode cX10_firstOfShortest 20 = .ok (.iload_n 1, 1) := by decide +kernel
theorem dX10_firstOfShortest_21 : decode cX10_firstOfShortest 21 = .ok (.i2l, 1) := by decide +kernel
theorem dX10_firstOfShortest_22 : decode cX10_firstOfShortest 22 = .ok (.iload 5, 2) := by decide +kernel
theorem dX10_firstOfShortest_24 : decode cX10_firstOfShortest 24 = .ok (.invokestatic 37, 3) := by decide +kernel
theorem dX10_firstOfShortest_27 : decode cX10_firstOfShortest 27 = .ok (.ifCond .ne 16, 3) := by decide +kernel
theorem dX10_firstOfShortest_30 : decode cX10_firstOfShortest 30 = .ok (.aload_n 0, 1) := by decide +kernel
theorem dX10_firstOfShortest_31 : decode cX10_firstOfShortest 31 = .ok (.iload_n 1, 1) := by decide +kernel
theorem dX10_firstOfShortest_32 : decode cX10_firstOfShortest 32 = .ok (.iload_n 2, 1) := by decide +kernel
theorem dX10_firstOfShortest_33 : decode cX10_firstOfShortest 33 = .ok (.iload 5, 2) := by decide +kernel
theorem dX10_firstOfShortest_35 : decode cX10_firstOfShortest 35 = .ok (.invokevirtual 64, 3) := by decide +kernel
theorem dX10_firstOfShortest_38 : decode cX10_firstOfShortest 38 = .ok (.iload 4, 2) := by decide +kernel
theorem dX10_firstOfShortest_40 : decode cX10_firstOfShortest 40 = .ok (.if_icmp .eq 9, 3) := by decide +kernel
theorem dX10_firstOfShortest_43 : decode cX10_firstOfShortest 43 = .ok (.iinc 5 1, 3) := by decide +kernel
theorem dX10_firstOfShortest_46 : decode cX10_firstOfShortest 46 = .ok (.goto (-34), 3) := by decide +kernel
theorem dX10_firstOfShortest_49 : decode cX10_firstOfShortest 49 = .ok (.iload 5, 2) := by decide +kernel
theorem dX10_firstOfShortest_51 : decode cX10_firstOfShortest 51 = .ok (.ireturn, 1) := by decide +kernel
theorem dX10_follow_0 : decode cX10_follow 0 = .ok (.iconst 0, 1) := by decide +kernel
theorem dX10_follow_1 : decode cX10_follow 1 = .ok (.istore_n 3, 1) := by decide +kernel
theorem dX10_follow_2 : decode cX10_follow 2 = .ok (.iconst (-1), 1) := by decide +kernel
theorem dX10_follow_3 : decode cX10_follow 3 = .ok (.istore 4, 2) := by decide +kernel
theorem dX10_follow_5 : decode cX10_follow 5 = .ok (.iconst 0, 1) := by decide +kernel
theorem dX10_follow_6 : decode cX10_follow 6 = .ok (.istore 5, 2) := by decide +kernel
theorem dX10_follow_8 : decode cX10_follow 8 = .ok (.iload 5, 2) := by decide +kernel
theorem dX10_follow_10 : decode cX10_follow 10 = .ok (.iload_n 2, 1) := by decide +kernel
theorem dX10_follow_11 : decode cX10_follow 11 = .ok (.if_icmp .ge 39, 3) := by decide +kernel
theorem dX10_follow_14 : decode cX10_follow 14 = .ok (.aload_n 0, 1) := by decide +kernel
theorem dX10_follow_15 : decode cX10_follow 15 = .ok (.iload_n 3, 1) := by decide +kernel
theorem dX10_follow_16 : decode cX10_follow 16 = .ok (.iload 4, 2) := by decide +kernel
theorem dX10_follow_18 : decode cX10_follow 18 = .ok (.iload_n 2, 1) := by decide +kernel
theorem dX10_follow_19 : decode cX10_follow 19 = .ok (.invokevirtual 67, 3) := by decide +kernel
theorem dX10_follow_22 : decode cX10_follow 22 = .ok (.istore 6, 2) := by decide +kernel
theorem dX10_follow_24 : decode cX10_follow 24 = .ok (.aload_n 1, 1) := by decide +kernel
theorem dX10_follow_25 : decode cX10_follow 25 = .ok (.getfield 70, 3) := by decide +kernel
theorem dX10_follow_28 : decode cX10_follow 28 = .ok (.iload 5, 2) := by decide +kernel
theorem dX10_follow_30 : decode cX10_follow 30 = .ok (.iload 6, 2) := by decide +kernel
theorem dX10_follow_32 : decode cX10_follow 32 = .ok (.iastore, 1) := by decide +kernel
theorem dX10_follow_33 : decode cX10_follow 33 = .ok (.iload_n 3, 1) := by decide +kernel
theorem dX10_follow_34 : decode cX10_follow 34 = .ok (.iconst 1, 1) := by decide +kernel
theorem dX10_follow_35 : decode cX10_follow 35 = .ok (.iload 6, 2) := by decide +kernel
theorem dX10_follow_37 : decode cX10_follow 37 = .ok (.ishl, 1) := by decide +kernel
theorem dX10_follow_38 : decode cX10_follow 38 = .ok (.ior, 1) := by decide +kernel
theorem dX10_follow_39 : decode cX10_follow 39 = .ok (.istore_n 3, 1) := by decide +kernel
theorem dX10_follow_40 : decode cX10_follow 40 = .ok (.iload 6, 2) := by decide +kernel
theorem dX10_follow_42 : decode cX10_follow 42 = .ok (.istore 4, 2) := by decide +kernel
theorem dX10_follow_44 : decode cX10_follow 44 = .ok (.iinc 5 1, 3) := by decide +kernel
theorem dX10_follow_47 : decode cX10_follow 47 = .ok (.goto (-39), 3) := by decide +kernel
theorem dX10_follow_50 : decode cX10_follow 50 = .ok (.return_, 1) := by decide +kernel
theorem dX10_way_0 : decode cX10_way 0 = .ok (.iload_n 0, 1) := by decide +kernel
theorem dX10_way_1 : decode cX10_way 1 = .ok (.invokestatic 60, 3) := by decide +kernel
theorem dX10_way_4 : decode cX10_way 4 = .ok (.istore_n 2, 1) := by decide +kernel
theorem dX10_way_5 : decode cX10_way 5 = .ok (.iload_n 2, 1) := by decide +kernel
theorem dX10_way_6 : decode cX10_way 6 = .ok (.bipush 96, 2) := by decide +kernel
theorem dX10_way_8 : decode cX10_way 8 = .ok (.iload_n 2, 1) := by decide +kernel
theorem dX10_way_9 : decode cX10_way 9 = .ok (.isub, 1) := by decide +kernel
theorem dX10_way_10 : decode cX10_way 10 = .ok (.invokestatic 27, 3) := by decide +kernel
theorem dX10_way_13 : decode cX10_way 13 = .ok (.iconst 2, 1) := by decide +kernel
theorem dX10_way_14 : decode cX10_way 14 = .ok (.iload_n 1, 1) := by decide +kernel
theorem dX10_way_15 : decode cX10_way 15 = .ok (.invokestatic 60, 3) := by decide +kernel
theorem dX10_way_18 : decode cX10_way 18 = .ok (.imul, 1) := by decide +kernel
theorem dX10_way_19 : decode cX10_way 19 = .ok (.iadd, 1) := by decide +kernel
theorem dX10_way_20 : decode cX10_way 20 = .ok (.ireturn, 1) := by decide +kernel
theorem dX10_measure_0 : decode cX10_measure 0 = .ok (.iconst 0, 1) := by decide +kernel
theorem dX10_measure_1 : decode cX10_measure 1 = .ok (.istore_n 3, 1) := by decide +kernel
theorem dX10_measure_2 : decode cX10_measure 2 = .ok (.iload_n 3, 1) := by decide +kernel
theorem dX10_measure_3 : decode cX10_measure 3 = .ok (.iload_n 2, 1) := by decide +kernel
theorem dX10_measure_4 : decode cX10_measure 4 = .ok (.if_icmp .ge 88, 3) := by decide +kernel
theorem dX10_measure_7 : decode cX10_measure 7 = .ok (.aload_n 0, 1) := by decide +kernel
theorem dX10_measure_8 : decode cX10_measure 8 = .ok (.getfield 18, 3) := by decide +kernel
theorem dX10_measure_11 : decode cX10_measure 11 = .ok (.iload_n 3, 1) := by decide +kernel
theorem dX10_measure_12 : decode cX10_measure 12 = .ok (.aload_n 1, 1) := by decide +kernel
theorem dX10_measure_13 : decode cX10_measure 13 = .ok (.getfield 51, 3) := by decide +kernel
theorem dX10_measure_16 : decode cX10_measure 16 = .ok (.iload_n 3, 1) := by decide +kernel
theorem dX10_measure_17 : decode cX10_measure 17 = .ok (.iaload, 1) := by decide +kernel
theorem dX10_measure_18 : decode cX10_measure 18 = .ok (.aload_n 1, 1) := by decide +kernel
theorem dX10_measure_19 : decode cX10_measure 19 = .ok (.getfield 54, 3) := by decide +kernel
theorem dX10_measure_22 : decode cX10_measure 22 = .ok (.iload_n 3, 1) := by decide +kernel
theorem dX10_measure_23 : decode cX10_measure 23 = .ok (.iaload, 1) := by decide +kernel
theorem dX10_measure_24 : decode cX10_measure 24 = .ok (.invokestatic 57, 3) := by decide +kernel
theorem dX10_measure_27 : decode cX10_measure 27 = .ok (.iastore, 1) := by decide +kernel
theorem dX10_measure_28 : decode cX10_measure 28 = .ok (.iconst 0, 1) := by decide +kernel
theorem dX10_measure_29 : decode cX10_measure 29 = .ok (.istore 4, 2) := by decide +kernel
theorem dX10_measure_31 : decode cX10_measure 31 = .ok (.iload 4, 2) := by decide +kernel
theorem dX10_measure_33 : decode cX10_measure 33 = .ok (.iload_n 2, 1) := by decide +kernel
theorem dX10_measure_34 : decode cX10_measure 34 = .ok (.if_icmp .ge 52, 3) := by decide +kernel
theorem dX10_measure_37 : decode cX10_measure 37 = .ok (.aload_n 0, 1) := by decide +kernel
theorem dX10_measure_38 : decode cX10_measure 38 = .ok (.getfield 15, 3) := by decide +kernel
theorem dX10_measure_41 : decode cX10_measure 41 = .ok (.iload_n 3, 1) := by decide +kernel
theorem dX10_measure_42 : decode cX10_measure 42 = .ok (.bipush 8, 2) := by decide +kernel
theorem dX10_measure_44 : decode cX10_measure 44 = .ok (.imul, 1) := by decide +kernel
theorem dX10_measure_45 : decode cX10_measure 45 = .ok (.iload 4, 2) := by decide +kernel
theorem dX10_measure_47 : decode cX10_measure 47 = .ok (.iadd, 1) := by decide +kernel
theorem dX10_measure_48 : decode cX10_measure 48 = .ok (.aload_n 1, 1) := by decide +kernel
theorem dX10_measure_49 : decode cX10_measure 49 = .ok (.getfield 51, 3) := by decide +kernel
theorem dX10_measure_52 : decode cX10_measure 52 = .ok (.iload_n 3, 1) := by decide +kernel
theorem dX10_measure_53 : decode cX10_measure 53 = .ok (.iaload, 1) := by decide +kernel
theorem dX10_measure_54 : decode cX10_measure 54 = .ok (.aload_n 1, 1) := by decide +kernel
theorem dX10_measure_55 : decode cX10_measure 55 = .ok (.getfield 51, 3) := by decide +kernel
theorem dX10_measure_58 : decode cX10_measure 58 = .ok (.iload 4, 2) := by decide +kernel
theorem dX10_measure_60 : decode cX10_measure 60 = .ok (.iaload, 1) := by decide +kernel
theorem dX10_measure_61 : decode cX10_measure 61 = .ok (.isub, 1) := by decide +kernel
theorem dX10_measure_62 : decode cX10_measure 62 = .ok (.aload_n 1, 1) := by decide +kernel
theorem dX10_measure_63 : decode cX10_measure 63 = .ok (.getfield 54, 3) := by decide +kernel
theorem dX10_measure_66 : decode cX10_measure 66 = .ok (.iload_n 3, 1) := by decide +kernel
theorem dX10_measure_67 : decode cX10_measure 67 = .ok (.iaload, 1) := by decide +kernel
theorem dX10_measure_68 : decode cX10_measure 68 = .ok (.aload_n 1, 1) := by decide +kernel
theorem dX10_measure_69 : decode cX10_measure 69 = .ok (.getfield 54, 3) := by decide +kernel
theorem dX10_measure_72 : decode cX10_measure 72 = .ok (.iload 4, 2) := by decide +kernel
theorem dX10_measure_74 : decode cX10_measure 74 = .ok (.iaload, 1) := by decide +kernel
theorem dX10_measure_75 : decode cX10_measure 75 = .ok (.isub, 1) := by decide +kernel
theorem dX10_measure_76 : decode cX10_measure 76 = .ok (.invokestatic 57, 3) := by decide +kernel
theorem dX10_measure_79 : decode cX10_measure 79 = .ok (.iastore, 1) := by decide +kernel
theorem dX10_measure_80 : decode cX10_measure 80 = .ok (.iinc 4 1, 3) := by decide +kernel
theorem dX10_measure_83 : decode cX10_measure 83 = .ok (.goto (-52), 3) := by decide +kernel
theorem dX10_measure_86 : decode cX10_measure 86 = .ok (.iinc 3 1, 3) := by decide +kernel
theorem dX10_measure_89 : decode cX10_measure 89 = .ok (.goto (-87), 3) := by decide +kernel
theorem dX10_measure_92 : decode cX10_measure 92 = .ok (.return_, 1) := by decide +kernel
theorem dX10_layPlan_0 : decode cX10_layPlan 0 = .ok (.aload_n 1, 1) := by decide +kernel
theorem dX10_layPlan_1 : decode cX10_layPlan 1 = .ok (.getfield 21, 3) := by decide +kernel
theorem dX10_layPlan_4 : decode cX10_layPlan 4 = .ok (.bipush 8, 2) := by decide +kernel
theorem dX10_layPlan_6 : decode cX10_layPlan 6 = .ok (.invokestatic 27, 3) := by decide +kernel
theorem dX10_layPlan_9 : decode cX10_layPlan 9 = .ok (.istore_n 2, 1) := by decide +kernel
theorem dX10_layPlan_10 : decode cX10_layPlan 10 = .ok (.aload_n 0, 1) := by decide +kernel
theorem dX10_layPlan_11 : decode cX10_layPlan 11 = .ok (.aload_n 1, 1) := by decide +kernel
theorem dX10_layPlan_12 : decode cX10_layPlan 12 = .ok (.iload_n 2, 1) := by decide +kernel
theorem dX10_layPlan_13 : decode cX10_layPlan 13 = .ok (.invokevirtual 33, 3) := by decide +kernel
theorem dX10_layPlan_16 : decode cX10_layPlan 16 = .ok (.iconst 1, 1) := by decide +kernel
theorem dX10_layPlan_17 : decode cX10_layPlan 17 = .ok (.iload_n 2, 1) := by decide +kernel
theorem dX10_layPlan_18 : decode cX10_layPlan 18 = .ok (.ishl, 1) := by decide +kernel
theorem dX10_layPlan_19 : decode cX10_layPlan 19 = .ok (.iconst 1, 1) := by decide +kernel
theorem dX10_layPlan_20 : decode cX10_layPlan 20 = .ok (.isub, 1) := by decide +kernel
theorem dX10_layPlan_21 : decode cX10_layPlan 21 = .ok (.istore_n 3, 1) := by decide +kernel
theorem dX10_layPlan_22 : decode cX10_layPlan 22 = .ok (.iload_n 3, 1) := by decide +kernel
theorem dX10_layPlan_23 : decode cX10_layPlan 23 = .ok (.istore 4, 2) := by decide +kernel
theorem dX10_layPlan_25 : decode cX10_layPlan 25 = .ok (.iload 4, 2) := by decide +kernel
theorem dX10_layPlan_27 : decode cX10_layPlan 27 = .ok (.ifCond .le 57, 3) := by decide +kernel
theorem dX10_layPlan_30 : decode cX10_layPlan 30 = .ok (.iconst 0, 1) := by decide +kernel
theorem dX10_layPlan_31 : decode cX10_layPlan 31 = .ok (.istore 5, 2) := by decide +kernel
theorem dX10_layPlan_33 : decode cX10_layPlan 33 = .ok (.iload 5, 2) := by decide +kernel
theorem dX10_layPlan_35 : decode cX10_layPlan 35 = .ok (.iload_n 2, 1) := by decide +kernel
theorem dX10_layPlan_36 : decode cX10_layPlan 36 = .ok (.if_icmp .ge 42, 3) := by decide +kernel
theorem dX10_layPlan_39 : decode cX10_layPlan 39 = .ok (.iload 4, 2) := by decide +kernel
theorem dX10_layPlan_41 : decode cX10_layPlan 41 = .ok (.i2l, 1) := by decide +kernel
theorem dX10_layPlan_42 : decode cX10_layPlan 42 = .ok (.iload 5, 2) := by decide +kernel
theorem dX10_layPlan_44 : decode cX10_layPlan 44 = .ok (.invokestatic 37, 3) := by decide +kernel
theorem dX10_layPlan_47 : decode cX10_layPlan 47 = .ok (.ifCond .eq 25, 3) := by decide +kernel
theorem dX10_layPlan_50 : decode cX10_layPlan 50 = .ok (.aload_n 0, 1) := by decide +kernel
theorem dX10_layPlan_51 : decode cX10_layPlan 51 = .ok (.getfield 11, 3) := by decide +kernel
theorem dX10_layPlan_54 : decode cX10_layPlan 54 = .ok (.iload 4, 2) := by decide +kernel
theorem dX10_layPlan_56 : decode cX10_layPlan 56 = .ok (.bipush 8, 2) := by decide +kernel
theorem dX10_layPlan_58 : decode cX10_layPlan 58 = .ok (.imul, 1) := by decide +kernel
theorem dX10_layPlan_59 : decode cX10_layPlan 59 = .ok (.iload 5, 2) := by decide +kernel
theorem dX10_layPlan_61 : decode cX10_layPlan 61 = .ok (.iadd, 1) := by decide +kernel
theorem dX10_layPlan_62 : decode cX10_layPlan 62 = .ok (.aload_n 0, 1) := by decide +kernel
theorem dX10_layPlan_63 : decode cX10_layPlan 63 = .ok (.iload 4, 2) := by decide +kernel
theorem dX10_layPlan_65 : decode cX10_layPlan 65 = .ok (.iload 5, 2) := by decide +kernel
theorem dX10_layPlan_67 : decode cX10_layPlan 67 = .ok (.iload_n 2, 1) := by decide +kernel
theorem dX10_layPlan_68 : decode cX10_layPlan 68 = .ok (.invokevirtual 41, 3) := by decide +kernel
theorem dX10_layPlan_71 : decode cX10_layPlan 71 = .ok (.iastore, 1) := by decide +kernel
theorem dX10_layPlan_72 : decode cX10_layPlan 72 = .ok (.iinc 5 1, 3) := by decide +kernel
theorem dX10_layPlan_75 : decode cX10_layPlan 75 = .ok (.goto (-42), 3) := by decide +kernel
theorem dX10_layPlan_78 : decode cX10_layPlan 78 = .ok (.iinc 4 (-1), 3) := by decide +kernel
theorem dX10_layPlan_81 : decode cX10_layPlan 81 = .ok (.goto (-56), 3) := by decide +kernel
theorem dX10_layPlan_84 : decode cX10_layPlan 84 = .ok (.aload_n 1, 1) := by decide +kernel
theorem dX10_layPlan_85 : decode cX10_layPlan 85 = .ok (.aload_n 0, 1) := by decide +kernel
theorem dX10_layPlan_86 : decode cX10_layPlan 86 = .ok (.iconst 0, 1) := by decide +kernel
theorem dX10_layPlan_87 : decode cX10_layPlan 87 = .ok (.iconst (-1), 1) := by decide +kernel
theorem dX10_layPlan_88 : decode cX10_layPlan 88 = .ok (.iload_n 2, 1) := by decide +kernel
theorem dX10_layPlan_89 : decode cX10_layPlan 89 = .ok (.invokevirtual 41, 3) := by decide +kernel
theorem dX10_layPlan_92 : decode cX10_layPlan 92 = .ok (.putfield 45, 3) := by decide +kernel
theorem dX10_layPlan_95 : decode cX10_layPlan 95 = .ok (.aload_n 0, 1) := by decide +kernel
theorem dX10_layPlan_96 : decode cX10_layPlan 96 = .ok (.aload_n 1, 1) := by decide +kernel
theorem dX10_layPlan_97 : decode cX10_layPlan 97 = .ok (.iload_n 2, 1) := by decide +kernel
theorem dX10_layPlan_98 : decode cX10_layPlan 98 = .ok (.invokevirtual 48, 3) := by decide +kernel
theorem dX10_layPlan_101 : decode cX10_layPlan 101 = .ok (.return_, 1) := by decide +kernel
def F_X9_init (a0 : Nat) (h0 : PM) : Option (Unit × PM) := nA h0 ((a0 + 1)) 20 100 fun h1 => pR h1 a0 10 0 ((a0 + 1)) fun h2 => pI h2 a0 10 1 0 fun h3 => pI h3 a0 10 2 0 fun h4 => pI h4 a0 10 3 0 fun h5 => pI h5 a0 10 4 0 fun h6 => nA h6 ((a0 + 2)) 20 6 fun h7 => pR h7 a0 10 5 ((a0 + 2)) fun h8 => nA h8 ((a0 + 3)) 20 6 fun h9 => pR h9 a0 10 6 ((a0 + 3)) fun h10 => nA h10 ((a0 + 4)) 20 6 fun h11 => pR h11 a0 10 7 ((a0 + 4)) fun h12 => nA h12 ((a0 + 5)) 20 6 fun h13 => pR h13 a0 10 8 ((a0 + 5)) fun h14 => some ((), h14)
set_option maxRecDepth 100000 in
set_option maxHeartbeats 4000000 in
theorem S_X9_init {a0 : Nat} {h0 : PM} (r : Unit) (h' : PM) (hF : F_X9_init a0 h0 = some (r, h')) : CN yX9_init cX9_init 1 none 5 124 1 [.ref a0] h0 none h' := by
  obtain ⟨X, eX⟩ : ∃ X, X = (r, h') := ⟨_, rfl⟩
  rw [← eX] at hF
  have e1 : r = X.1 := by rw [eX]
  have e2 : h' = X.2 := by rw [eX]
  rw [e2]
  clear eX e1 e2
  unfold F_X9_init at hF
  refine CN_of (by decide) (fun ρ => Nat.le_of_ble_eq_true rfl) rfl ?_
  intro p l e s m args below meth c D cy base ρ hT C V hr hnm
  refine r_aload_n C dX9_init_0 rfl 0 rfl ?_
  refine r_objInit C dX9_init_1 ml_X9_3 im_obj cd_obj (by decide) (Nat.le_of_ble_eq_true rfl) ?_
  refine r_aload_n C dX9_init_4 rfl 0 rfl ?_
  refine r_bipush (v := 100) C dX9_init_5 (by decide) ?_
  refine k_newi (N := 100) (a := (a0 + 1)) C dX9_init_7 ac_int (by decide) (by decide) (by decide) hF (fun h1 hF => ?_)
  refine k_pR C dX9_init_9 fd_X9_9 (fun _ => hnm) (by decide) hF (fun h2 hF => ?_)
  refine r_aload_n C dX9_init_12 rfl 0 rfl ?_
  refine r_iconst (v := 0) C dX9_init_13 (by decide) ?_
  refine k_pI C dX9_init_14 fd_X9_15 (fun z => by cases z) (by decide) hF (fun h3 hF => ?_)
  refine r_aload_n C dX9_init_17 rfl 0 rfl ?_
  refine r_iconst (v := 0) C dX9_init_18 (by decide) ?_
  refine k_pI C dX9_init_19 fd_X9_19 (fun z => by cases z) (by decide) hF (fun h4 hF => ?_)
  refine r_aload_n C dX9_init_22 rfl 0 rfl ?_
  refine r_iconst (v := 0) C dX9_init_23 (by decide) ?_
  refine k_pI C dX9_init_24 fd_X9_22 (fun z => by cases z) (by decide) hF (fun h5 hF => ?_)
  refine r_aload_n C dX9_init_27 rfl 0 rfl ?_
  refine r_iconst (v := 0) C dX9_init_28 (by decide) ?_
  refine k_pI C dX9_init_29 fd_X9_25 (fun z => by cases z) (by decide) hF (fun h6 hF => ?_)
  refine r_aload_n C dX9_init_32 rfl 0 rfl ?_
  refine r_bipush (v := 6) C dX9_init_33 (by decide) ?_
  refine k_newi (N := 6) (a := (a0 + 2)) C dX9_init_35 ac_int (by decide) (by decide) (by decide) hF (fun h7 hF => ?_)
  refine k_pR C dX9_init_37 fd_X9_28 (fun _ => hnm) (by decide) hF (fun h8 hF => ?_)
  refine r_aload_n C dX9_init_40 rfl 0 rfl ?_
  refine r_bipush (v := 6) C dX9_init_41 (by decide) ?_
  refine k_newi (N := 6) (a := (a0 + 3)) C dX9_init_43 ac_int (by decide) (by decide) (by decide) hF (fun h9 hF => ?_)
  refine k_pR C dX9_init_45 fd_X9_31 (fun _ => hnm) (by decide) hF (fun h10 hF => ?_)
  refine r_aload_n C dX9_init_48 rfl 0 rfl ?_
  refine r_bipush (v := 6) C dX9_init_49 (by decide) ?_
  refine k_newi (N := 6) (a := (a0 + 4)) C dX9_init_51 ac_int (by decide) (by decide) (by decide) hF (fun h11 hF => ?_)
  refine k_pR C dX9_init_53 fd_X9_34 (fun _ => hnm) (by decide) hF (fun h12 hF => ?_)
  refine r_aload_n C dX9_init_56 rfl 0 rfl ?_
  refine r_bipush (v := 6) C dX9_init_57 (by decide) ?_
  refine k_newi (N := 6) (a := (a0 + 5)) C dX9_init_59 ac_int (by decide) (by decide) (by decide) hF (fun h13 hF => ?_)
  refine k_pR C dX9_init_61 fd_X9_37 (fun _ => hnm) (by decide) hF (fun h14 hF => ?_)
  exact k_vret C dX9_init_64 hr (by decide) (by decide) hF
def F_X9_append_L3 (c0 : Nat) (c1 : Int32) (k48 : PM → Option (Unit × PM)) : Nat → Int32 → PM → Option (Unit × PM)
  | 0, _, _ => none
  | fu + 1, v2, h3 => if v2 < 0 then (k48 h3) else (gI h3 c0 10 1 fun x4 => if 100 ≤ x4 then (k48 h3) else (gR h3 c0 10 0 fun x5 => gI h3 c0 10 1 fun x6 => sI h3 x5 x6 (((Int32.toUInt32 c1 >>> (Int32.toUInt32 v2 &&& Int32.toUInt32 31)).toInt32) &&& 255) fun h7 => gI h7 c0 10 1 fun x8 => pI h7 c0 10 1 (x8 + 1) fun h9 => F_X9_append_L3 c0 c1 k48 fu (v2 + (-8)) h9))
def F_X9_append (a0 : Nat) (a1 : Int32) (h0 : PM) : Option (Unit × PM) := jn (fun  (h1 : PM) => some ((), h1)) fun k48 => F_X9_append_L3 a0 a1 k48 LF 24 h0
set_option maxRecDepth 100000 in
set_option maxHeartbeats 4000000 in
theorem S_X9_append {a0 : Nat} {a1 : Int32} {h0 : PM} (r : Unit) (h' : PM) (hF : F_X9_append a0 a1 h0 = some (r, h')) : CN yX9_append cX9_append 3 none 0 0 0 [.ref a0, .int a1] h0 none h' := by
  obtain ⟨X, eX⟩ : ∃ X, X = (r, h') := ⟨_, rfl⟩
  rw [← eX] at hF
  have e1 : r = X.1 := by rw [eX]
  have e2 : h' = X.2 := by rw [eX]
  rw [e2]
  clear eX e1 e2
  unfold F_X9_append at hF
  refine CN_of (by decide) (fun ρ => Nat.le_of_ble_eq_true rfl) rfl ?_
  intro p l e s m args below meth c D cy base ρ hT C V hr hnm
  refine r_bipush (v := 24) C dX9_append_0 (by decide) ?_
  refine r_istore_n C dX9_append_2 rfl (by decide) rfl ?_
  obtain ⟨k48, ek48, hF⟩ := jn_some hF
  have Jk48 : ∀  (h1 : PM), k48 h1 = some X → WP p l e (rmN 0 0 0) s m args below meth c D cy base ρ h0 0 0 3 (MQ below (QR D cy base ρ h0 none X.2) args s 0 0 (fun q => base ≤ q)) 48 [] [] h1 := by
    intro h1 hF
    rw [ek48] at hF
    exact k_vret C dX9_append_48 hr (by decide) (by decide) hF
  have L3 : ∀ (fu : Nat) (v2 : Int32) (h3 : PM), F_X9_append_L3 a0 a1 k48 fu v2 h3 = some X → WP p l e (rmN 0 0 0) s m args below meth c D cy base ρ h0 0 0 3 (MQ below (QR D cy base ρ h0 none X.2) args s 0 0 (fun q => base ≤ q)) 3 [(0, .ref a0), (1, .int a1), (2, .int v2)] [] h3 := by
    intro fu
    induction fu with
    | zero => intro v2 h3 hF; rw [F_X9_append_L3.eq_1] at hF; cases hF
    | succ fu ih =>
      intro v2 h3 hF
      rw [F_X9_append_L3.eq_2] at hF
      refine r_iload_n C dX9_append_3 rfl 2 rfl ?_
      refine r_if_lt (tgt := 48) C dX9_append_4 (by decide) hF (fun hF => ?_) (fun hF => ?_)
      · exact r_sub [] rfl (Jk48  _ hF)
      · refine r_aload_n C dX9_append_7 rfl 0 rfl ?_
        refine k_gI C dX9_append_8 fd_X9_15 (by decide) hF (fun x4 hF => ?_)
        refine r_bipush (v := 100) C dX9_append_11 (by decide) ?_
        refine r_icmp_ge (tgt := 48) C dX9_append_13 (by decide) hF (fun hF => ?_) (fun hF => ?_)
        · exact r_sub [] rfl (Jk48  _ hF)
        · refine r_aload_n C dX9_append_16 rfl 0 rfl ?_
          refine k_gR C dX9_append_17 fd_X9_9 (by decide) hF (fun x5 hF => ?_)
          refine r_aload_n C dX9_append_20 rfl 0 rfl ?_
          refine k_gI C dX9_append_21 fd_X9_15 (by decide) hF (fun x6 hF => ?_)
          refine r_iload_n C dX9_append_24 rfl 1 rfl ?_
          refine r_iload_n C dX9_append_25 rfl 2 rfl ?_
          refine r_iushr C dX9_append_26 ?_
          refine r_sipush (v := 255) C dX9_append_27 (by decide) ?_
          refine r_iand C dX9_append_30 ?_
          refine k_sI C dX9_append_31 hF (fun h7 hF => ?_)
          refine r_aload_n C dX9_append_32 rfl 0 rfl ?_
          refine r_dup C dX9_append_33 rfl ?_
          refine k_gI C dX9_append_34 fd_X9_15 (by decide) hF (fun x8 hF => ?_)
          refine r_iconst (v := 1) C dX9_append_37 (by decide) ?_
          refine r_iadd C dX9_append_38 ?_
          refine k_pI C dX9_append_39 fd_X9_15 (fun z => by cases z) (by decide) hF (fun h9 hF => ?_)
          refine r_iinc (v := v2 + (-8)) C dX9_append_42 2 rfl (congrArg (fun z => v2 + z) (by decide)) (by decide) rfl ?_
          refine r_goto (tgt := 3) C dX9_append_45 (by decide) ?_
          exact r_sub [1, 2, 0] rfl (ih _ _ hF)
  exact r_sub [1, 2, 0] rfl (L3 _ _ _ hF)
def F_X9_isEnd_L0 (c0 : Nat) (k47 : PM → Option (Int32 × PM)) : Nat → PM → Option (Int32 × PM)
  | 0, _ => none
  | fu + 1, h8 => gI h8 c0 10 2 fun x9 => gI h8 c0 10 3 fun x10 => if x10 ≤ x9 then (k47 h8) else (gI h8 c0 10 2 fun x11 => if 100 ≤ x11 then (k47 h8) else (gR h8 c0 10 0 fun x12 => gI h8 c0 10 2 fun x13 => aI h8 x12 x13 fun x14 => if ¬ x14 = 32 then (k47 h8) else (gI h8 c0 10 2 fun x15 => pI h8 c0 10 2 (x15 + 1) fun h16 => F_X9_isEnd_L0 c0 k47 fu h16)))
def F_X9_isEnd (a0 : Nat) (h0 : PM) : Option (Int32 × PM) := jn (fun  (h1 : PM) => gI h1 a0 10 2 fun x2 => gI h1 a0 10 3 fun x3 => jn (fun (s4 : Int32) (h5 : PM) => rz s4 h5) fun k72 => jn (fun  (h6 : PM) => k72 1 h6) fun k67 => if x3 ≤ x2 then (k67 h1) else (gI h1 a0 10 2 fun x7 => if x7 < 100 then (k72 0 h1) else (k67 h1))) fun k47 => F_X9_isEnd_L0 a0 k47 LF  h0
set_option maxRecDepth 100000 in
set_option maxHeartbeats 4000000 in
theorem S_X9_isEnd {a0 : Nat} {h0 : PM} (r : Int32) (h' : PM) (hF : F_X9_isEnd a0 h0 = some (r, h')) : CN yX9_isEnd cX9_isEnd 1 (some .boolean) 0 0 0 [.ref a0] h0 (some (.int r)) h' := by
  obtain ⟨X, eX⟩ : ∃ X, X = (r, h') := ⟨_, rfl⟩
  rw [← eX] at hF
  have e1 : r = X.1 := by rw [eX]
  have e2 : h' = X.2 := by rw [eX]
  rw [e1, e2]
  clear eX e1 e2
  unfold F_X9_isEnd at hF
  refine CN_of (by decide) (fun ρ => Nat.le_of_ble_eq_true rfl) rfl ?_
  intro p l e s m args below meth c D cy base ρ hT C V hr hnm
  obtain ⟨k47, ek47, hF⟩ := jn_some hF
  have Jk47 : ∀  (h1 : PM), k47 h1 = some X → WP p l e (rmN 0 0 0) s m args below meth c D cy base ρ h0 0 0 1 (MQ below (QR D cy base ρ h0 (some (.int X.1)) X.2) args s 0 0 (fun q => base ≤ q)) 47 [(0, .ref a0)] [] h1 := by
    intro h1 hF
    rw [ek47] at hF
    refine r_aload_n C dX9_isEnd_47 rfl 0 rfl ?_
    refine k_gI C dX9_isEnd_48 fd_X9_19 (by decide) hF (fun x2 hF => ?_)
    refine r_aload_n C dX9_isEnd_51 rfl 0 rfl ?_
    refine k_gI C dX9_isEnd_52 fd_X9_22 (by decide) hF (fun x3 hF => ?_)
    obtain ⟨k72, ek72, hF⟩ := jn_some hF
    have Jk72 : ∀ (s4 : Int32) (h5 : PM), k72 s4 h5 = some X → WP p l e (rmN 0 0 0) s m args below meth c D cy base ρ h0 0 0 1 (MQ below (QR D cy base ρ h0 (some (.int X.1)) X.2) args s 0 0 (fun q => base ≤ q)) 72 [] [.int s4] h5 := by
      intro s4 h5 hF
      rw [ek72] at hF
      exact k_zret C dX9_isEnd_72 hr (by decide) (by decide) hF
    obtain ⟨k67, ek67, hF⟩ := jn_some hF
    have Jk67 : ∀  (h6 : PM), k67 h6 = some X → WP p l e (rmN 0 0 0) s m args below meth c D cy base ρ h0 0 0 1 (MQ below (QR D cy base ρ h0 (some (.int X.1)) X.2) args s 0 0 (fun q => base ≤ q)) 67 [] [] h6 := by
      intro h6 hF
      rw [ek67] at hF
      refine r_iconst (v := 1) C dX9_isEnd_67 (by decide) ?_
      refine r_goto (tgt := 72) C dX9_isEnd_68 (by decide) ?_
      exact Jk72 _ _ hF
    refine r_icmp_ge (tgt := 67) C dX9_isEnd_55 (by decide) hF (fun hF => ?_) (fun hF => ?_)
    · exact r_sub [] rfl (Jk67  _ hF)
    · refine r_aload_n C dX9_isEnd_58 rfl 0 rfl ?_
      refine k_gI C dX9_isEnd_59 fd_X9_19 (by decide) hF (fun x7 hF => ?_)
      refine r_bipush (v := 100) C dX9_isEnd_62 (by decide) ?_
      refine r_icmp_lt (tgt := 71) C dX9_isEnd_64 (by decide) hF (fun hF => ?_) (fun hF => ?_)
      · refine r_iconst (v := 0) C dX9_isEnd_71 (by decide) ?_
        exact r_sub [] rfl (Jk72 _ _ hF)
      · exact r_sub [] rfl (Jk67  _ hF)
  have L0 : ∀ (fu : Nat)  (h8 : PM), F_X9_isEnd_L0 a0 k47 fu h8 = some X → WP p l e (rmN 0 0 0) s m args below meth c D cy base ρ h0 0 0 1 (MQ below (QR D cy base ρ h0 (some (.int X.1)) X.2) args s 0 0 (fun q => base ≤ q)) 0 [(0, .ref a0)] [] h8 := by
    intro fu
    induction fu with
    | zero => intro h8 hF; rw [F_X9_isEnd_L0.eq_1] at hF; cases hF
    | succ fu ih =>
      intro h8 hF
      rw [F_X9_isEnd_L0.eq_2] at hF
      refine r_aload_n C dX9_isEnd_0 rfl 0 rfl ?_
      refine k_gI C dX9_isEnd_1 fd_X9_19 (by decide) hF (fun x9 hF => ?_)
      refine r_aload_n C dX9_isEnd_4 rfl 0 rfl ?_
      refine k_gI C dX9_isEnd_5 fd_X9_22 (by decide) hF (fun x10 hF => ?_)
      refine r_icmp_ge (tgt := 47) C dX9_isEnd_8 (by decide) hF (fun hF => ?_) (fun hF => ?_)
      · exact Jk47  _ hF
      · refine r_aload_n C dX9_isEnd_11 rfl 0 rfl ?_
        refine k_gI C dX9_isEnd_12 fd_X9_19 (by decide) hF (fun x11 hF => ?_)
        refine r_bipush (v := 100) C dX9_isEnd_15 (by decide) ?_
        refine r_icmp_ge (tgt := 47) C dX9_isEnd_17 (by decide) hF (fun hF => ?_) (fun hF => ?_)
        · exact Jk47  _ hF
        · refine r_aload_n C dX9_isEnd_20 rfl 0 rfl ?_
          refine k_gR C dX9_isEnd_21 fd_X9_9 (by decide) hF (fun x12 hF => ?_)
          refine r_aload_n C dX9_isEnd_24 rfl 0 rfl ?_
          refine k_gI C dX9_isEnd_25 fd_X9_19 (by decide) hF (fun x13 hF => ?_)
          refine k_aI C dX9_isEnd_28 hF (fun x14 hF => ?_)
          refine r_bipush (v := 32) C dX9_isEnd_29 (by decide) ?_
          refine r_icmp_ne (tgt := 47) C dX9_isEnd_31 (by decide) hF (fun hF => ?_) (fun hF => ?_)
          · exact Jk47  _ hF
          · refine r_aload_n C dX9_isEnd_34 rfl 0 rfl ?_
            refine r_dup C dX9_isEnd_35 rfl ?_
            refine k_gI C dX9_isEnd_36 fd_X9_19 (by decide) hF (fun x15 hF => ?_)
            refine r_iconst (v := 1) C dX9_isEnd_39 (by decide) ?_
            refine r_iadd C dX9_isEnd_40 ?_
            refine k_pI C dX9_isEnd_41 fd_X9_19 (fun z => by cases z) (by decide) hF (fun h16 hF => ?_)
            refine r_goto (tgt := 0) C dX9_isEnd_44 (by decide) ?_
            exact ih  _ hF
  exact L0 _  _ hF
def F_X9_readDigit (a0 : Nat) (a1 : Int32) (a2 : Int32) (h0 : PM) : Option (Int32 × PM) := tst h0 a0 10 (cl (F_X9_isEnd a0 h0) fun r1 h2 => if r1 = 0 then (gR h2 a0 10 0 fun x4 => gI h2 a0 10 2 fun x5 => aI h2 x4 x5 fun x6 => lt_ (x6 - 48) fun x7 => jn (fun  (h8 : PM) => some ((-1), h8)) fun k32 => if x7 < a1 then (k32 h2) else (if x7 ≤ a2 then (gI h2 a0 10 2 fun x9 => pI h2 a0 10 2 (x9 + 1) fun h10 => some (x7, h10)) else (k32 h2))) else (some ((-1), h2)))
set_option maxRecDepth 100000 in
set_option maxHeartbeats 4000000 in
theorem S_X9_readDigit {a0 : Nat} {a1 : Int32} {a2 : Int32} {h0 : PM} (r : Int32) (h' : PM) (hF : F_X9_readDigit a0 a1 a2 h0 = some (r, h')) : CN yX9_readDigit cX9_readDigit 4 (some .int) 0 0 1 [.ref a0, .int a1, .int a2] h0 (some (.int r)) h' := by
  obtain ⟨X, eX⟩ : ∃ X, X = (r, h') := ⟨_, rfl⟩
  rw [← eX] at hF
  have e1 : r = X.1 := by rw [eX]
  have e2 : h' = X.2 := by rw [eX]
  rw [e1, e2]
  clear eX e1 e2
  unfold F_X9_readDigit at hF
  refine CN_of (by decide) (fun ρ => Nat.le_of_ble_eq_true rfl) rfl ?_
  intro p l e s m args below meth c D cy base ρ hT C V hr hnm
  refine r_aload_n C dX9_readDigit_0 rfl 0 rfl ?_
  obtain ⟨ht, hF⟩ := tst_some hF
  obtain ⟨r1, h2, hc3, hF⟩ := cl_some hF
  refine r_callV (As := []) C dX9_readDigit_1 V hT cal_X9_isEnd cls_10 ml_X9_44 im_X9_isEnd se_X9_isEnd ht (by decide) rfl rfl (Nat.le_of_ble_eq_true rfl) (by decide) (by decide) (S_X9_isEnd _ _ hc3) ?_
  refine r_if_eq (tgt := 9) C dX9_readDigit_4 (by decide) hF (fun hF => ?_) (fun hF => ?_)
  · refine r_aload_n C dX9_readDigit_9 rfl 0 rfl ?_
    refine k_gR C dX9_readDigit_10 fd_X9_9 (by decide) hF (fun x4 hF => ?_)
    refine r_aload_n C dX9_readDigit_13 rfl 0 rfl ?_
    refine k_gI C dX9_readDigit_14 fd_X9_19 (by decide) hF (fun x5 hF => ?_)
    refine k_aI C dX9_readDigit_17 hF (fun x6 hF => ?_)
    refine r_bipush (v := 48) C dX9_readDigit_18 (by decide) ?_
    refine r_isub C dX9_readDigit_20 ?_
    refine k_lti hF (fun x7 hF => ?_)
    refine r_istore_n C dX9_readDigit_21 rfl (by decide) rfl ?_
    refine r_iload_n C dX9_readDigit_22 rfl 0 rfl ?_
    refine r_iload_n C dX9_readDigit_23 rfl 2 rfl ?_
    obtain ⟨k32, ek32, hF⟩ := jn_some hF
    have Jk32 : ∀  (h8 : PM), k32 h8 = some X → WP p l e (rmN 0 0 1) s m args below meth c D cy base ρ h0 0 0 4 (MQ below (QR D cy base ρ h0 (some (.int X.1)) X.2) args s 0 0 (fun q => base ≤ q)) 32 [] [] h8 := by
      intro h8 hF
      rw [ek32] at hF
      refine r_iconst (v := (-1)) C dX9_readDigit_32 (by decide) ?_
      exact k_iret C dX9_readDigit_33 hr (by decide) (by decide) hF
    refine r_icmp_lt (tgt := 32) C dX9_readDigit_24 (by decide) hF (fun hF => ?_) (fun hF => ?_)
    · exact r_sub [] rfl (Jk32  _ hF)
    · refine r_iload_n C dX9_readDigit_27 rfl 0 rfl ?_
      refine r_iload_n C dX9_readDigit_28 rfl 3 rfl ?_
      refine r_icmp_le (tgt := 34) C dX9_readDigit_29 (by decide) hF (fun hF => ?_) (fun hF => ?_)
      · refine r_aload_n C dX9_readDigit_34 rfl 1 rfl ?_
        refine r_dup C dX9_readDigit_35 rfl ?_
        refine k_gI C dX9_readDigit_36 fd_X9_19 (by decide) hF (fun x9 hF => ?_)
        refine r_iconst (v := 1) C dX9_readDigit_39 (by decide) ?_
        refine r_iadd C dX9_readDigit_40 ?_
        refine k_pI C dX9_readDigit_41 fd_X9_19 (fun z => by cases z) (by decide) hF (fun h10 hF => ?_)
        refine r_iload_n C dX9_readDigit_44 rfl 0 rfl ?_
        exact k_iret C dX9_readDigit_45 hr (by decide) (by decide) hF
      · exact r_sub [] rfl (Jk32  _ hF)
  · refine r_iconst (v := (-1)) C dX9_readDigit_7 (by decide) ?_
    exact k_iret C dX9_readDigit_8 hr (by decide) (by decide) hF
def F_X9_readSign (a0 : Nat) (a1 : Int32) (h0 : PM) : Option (Int32 × PM) := tst h0 a0 10 (cl (F_X9_isEnd a0 h0) fun r1 h2 => jn (fun  (h4 : PM) => rz 0 h4) fun k20 => if ¬ r1 = 0 then (k20 h2) else (gR h2 a0 10 0 fun x5 => gI h2 a0 10 2 fun x6 => aI h2 x5 x6 fun x7 => if x7 = a1 then (gI h2 a0 10 2 fun x8 => pI h2 a0 10 2 (x8 + 1) fun h9 => rz 1 h9) else (k20 h2)))
set_option maxRecDepth 100000 in
set_option maxHeartbeats 4000000 in
theorem S_X9_readSign {a0 : Nat} {a1 : Int32} {h0 : PM} (r : Int32) (h' : PM) (hF : F_X9_readSign a0 a1 h0 = some (r, h')) : CN yX9_readSign cX9_readSign 2 (some .boolean) 0 0 1 [.ref a0, .int a1] h0 (some (.int r)) h' := by
  obtain ⟨X, eX⟩ : ∃ X, X = (r, h') := ⟨_, rfl⟩
  rw [← eX] at hF
  have e1 : r = X.1 := by rw [eX]
  have e2 : h' = X.2 := by rw [eX]
  rw [e1, e2]
  clear eX e1 e2
  unfold F_X9_readSign at hF
  refine CN_of (by decide) (fun ρ => Nat.le_of_ble_eq_true rfl) rfl ?_
  intro p l e s m args below meth c D cy base ρ hT C V hr hnm
  refine r_aload_n C dX9_readSign_0 rfl 0 rfl ?_
  obtain ⟨ht, hF⟩ := tst_some hF
  obtain ⟨r1, h2, hc3, hF⟩ := cl_some hF
  refine r_callV (As := []) C dX9_readSign_1 V hT cal_X9_isEnd cls_10 ml_X9_44 im_X9_isEnd se_X9_isEnd ht (by decide) rfl rfl (Nat.le_of_ble_eq_true rfl) (by decide) (by decide) (S_X9_isEnd _ _ hc3) ?_
  obtain ⟨k20, ek20, hF⟩ := jn_some hF
  have Jk20 : ∀  (h4 : PM), k20 h4 = some X → WP p l e (rmN 0 0 1) s m args below meth c D cy base ρ h0 0 0 2 (MQ below (QR D cy base ρ h0 (some (.int X.1)) X.2) args s 0 0 (fun q => base ≤ q)) 20 [] [] h4 := by
    intro h4 hF
    rw [ek20] at hF
    refine r_iconst (v := 0) C dX9_readSign_20 (by decide) ?_
    exact k_zret C dX9_readSign_21 hr (by decide) (by decide) hF
  refine r_if_ne (tgt := 20) C dX9_readSign_4 (by decide) hF (fun hF => ?_) (fun hF => ?_)
  · exact r_sub [] rfl (Jk20  _ hF)
  · refine r_aload_n C dX9_readSign_7 rfl 0 rfl ?_
    refine k_gR C dX9_readSign_8 fd_X9_9 (by decide) hF (fun x5 hF => ?_)
    refine r_aload_n C dX9_readSign_11 rfl 0 rfl ?_
    refine k_gI C dX9_readSign_12 fd_X9_19 (by decide) hF (fun x6 hF => ?_)
    refine k_aI C dX9_readSign_15 hF (fun x7 hF => ?_)
    refine r_iload_n C dX9_readSign_16 rfl 1 rfl ?_
    refine r_icmp_eq (tgt := 22) C dX9_readSign_17 (by decide) hF (fun hF => ?_) (fun hF => ?_)
    · refine r_aload_n C dX9_readSign_22 rfl 0 rfl ?_
      refine r_dup C dX9_readSign_23 rfl ?_
      refine k_gI C dX9_readSign_24 fd_X9_19 (by decide) hF (fun x8 hF => ?_)
      refine r_iconst (v := 1) C dX9_readSign_27 (by decide) ?_
      refine r_iadd C dX9_readSign_28 ?_
      refine k_pI C dX9_readSign_29 fd_X9_19 (fun z => by cases z) (by decide) hF (fun h9 hF => ?_)
      refine r_iconst (v := 1) C dX9_readSign_32 (by decide) ?_
      exact k_zret C dX9_readSign_33 hr (by decide) (by decide) hF
    · exact r_sub [] rfl (Jk20  _ hF)
def F_X9_readLayer (a0 : Nat) (a1 : Int32) (h0 : PM) : Option (Int32 × PM) := gR h0 a0 10 7 fun x1 => tst h0 a0 10 (cl (F_X9_readDigit a0 1 6 h0) fun r2 h3 => sI h3 x1 a1 r2 fun h5 => gR h5 a0 10 7 fun x6 => aI h5 x6 a1 fun x7 => jn (fun  (h8 : PM) => rz 0 h8) fun k32 => if x7 = (-1) then (k32 h5) else (tst h5 a0 10 (cl (F_X9_readSign a0 120 h5) fun r9 h10 => if ¬ r9 = 0 then (gR h10 a0 10 8 fun x12 => tst h10 a0 10 (cl (F_X9_readDigit a0 1 6 h10) fun r13 h14 => sI h14 x12 a1 r13 fun h16 => gR h16 a0 10 8 fun x17 => aI h16 x17 a1 fun x18 => jn (fun  (h19 : PM) => rz 0 h19) fun k66 => if x18 = (-1) then (k66 h16) else (tst h16 a0 10 (cl (F_X9_readSign a0 64 h16) fun r20 h21 => if ¬ r20 = 0 then (gR h21 a0 10 5 fun x23 => gR h21 a0 10 7 fun x24 => aI h21 x24 a1 fun x25 => tst h21 a0 10 (cl (F_X9_readDigit a0 0 (6 - x25) h21) fun r26 h27 => sI h27 x23 a1 r26 fun h29 => gR h29 a0 10 5 fun x30 => aI h29 x30 a1 fun x31 => jn (fun  (h32 : PM) => rz 0 h32) fun k107 => if x31 = (-1) then (k107 h29) else (tst h29 a0 10 (cl (F_X9_readSign a0 44 h29) fun r33 h34 => if ¬ r33 = 0 then (gR h34 a0 10 6 fun x36 => gR h34 a0 10 8 fun x37 => aI h34 x37 a1 fun x38 => tst h34 a0 10 (cl (F_X9_readDigit a0 0 (6 - x38) h34) fun r39 h40 => sI h40 x36 a1 r39 fun h42 => gR h42 a0 10 6 fun x43 => aI h42 x43 a1 fun x44 => jn (fun (s45 : Int32) (h46 : PM) => rz s45 h46) fun k144 => if x44 = (-1) then (k144 0 h42) else (k144 1 h42))) else (k107 h34))))) else (k66 h21))))) else (k32 h10))))
set_option maxRecDepth 100000 in
set_option maxHeartbeats 4000000 in
theorem S_X9_readLayer {a0 : Nat} {a1 : Int32} {h0 : PM} (r : Int32) (h' : PM) (hF : F_X9_readLayer a0 a1 h0 = some (r, h')) : CN yX9_readLayer cX9_readLayer 2 (some .boolean) 0 0 2 [.ref a0, .int a1] h0 (some (.int r)) h' := by
  obtain ⟨X, eX⟩ : ∃ X, X = (r, h') := ⟨_, rfl⟩
  rw [← eX] at hF
  have e1 : r = X.1 := by rw [eX]
  have e2 : h' = X.2 := by rw [eX]
  rw [e1, e2]
  clear eX e1 e2
  unfold F_X9_readLayer at hF
  refine CN_of (by decide) (fun ρ => Nat.le_of_ble_eq_true rfl) rfl ?_
  intro p l e s m args below meth c D cy base ρ hT C V hr hnm
  refine r_aload_n C dX9_readLayer_0 rfl 0 rfl ?_
  refine k_gR C dX9_readLayer_1 fd_X9_34 (by decide) hF (fun x1 hF => ?_)
  refine r_iload_n C dX9_readLayer_4 rfl 1 rfl ?_
  refine r_aload_n C dX9_readLayer_5 rfl 0 rfl ?_
  refine r_iconst (v := 1) C dX9_readLayer_6 (by decide) ?_
  refine r_bipush (v := 6) C dX9_readLayer_7 (by decide) ?_
  obtain ⟨ht, hF⟩ := tst_some hF
  obtain ⟨r2, h3, hc4, hF⟩ := cl_some hF
  refine r_callV (As := [.int 1, .int 6]) C dX9_readLayer_9 V hT cal_X9_readDigit cls_10 ml_X9_51 im_X9_readDigit se_X9_readDigit ht (by decide) rfl rfl (Nat.le_of_ble_eq_true rfl) (by decide) (by decide) (S_X9_readDigit _ _ hc4) ?_
  refine k_sI C dX9_readLayer_12 hF (fun h5 hF => ?_)
  refine r_aload_n C dX9_readLayer_13 rfl 0 rfl ?_
  refine k_gR C dX9_readLayer_14 fd_X9_34 (by decide) hF (fun x6 hF => ?_)
  refine r_iload_n C dX9_readLayer_17 rfl 1 rfl ?_
  refine k_aI C dX9_readLayer_18 hF (fun x7 hF => ?_)
  refine r_iconst (v := (-1)) C dX9_readLayer_19 (by decide) ?_
  obtain ⟨k32, ek32, hF⟩ := jn_some hF
  have Jk32 : ∀  (h8 : PM), k32 h8 = some X → WP p l e (rmN 0 0 2) s m args below meth c D cy base ρ h0 0 0 2 (MQ below (QR D cy base ρ h0 (some (.int X.1)) X.2) args s 0 0 (fun q => base ≤ q)) 32 [] [] h8 := by
    intro h8 hF
    rw [ek32] at hF
    refine r_iconst (v := 0) C dX9_readLayer_32 (by decide) ?_
    exact k_zret C dX9_readLayer_33 hr (by decide) (by decide) hF
  refine r_icmp_eq (tgt := 32) C dX9_readLayer_20 (by decide) hF (fun hF => ?_) (fun hF => ?_)
  · exact r_sub [] rfl (Jk32  _ hF)
  · refine r_aload_n C dX9_readLayer_23 rfl 0 rfl ?_
    refine r_bipush (v := 120) C dX9_readLayer_24 (by decide) ?_
    obtain ⟨ht, hF⟩ := tst_some hF
    obtain ⟨r9, h10, hc11, hF⟩ := cl_some hF
    refine r_callV (As := [.int 120]) C dX9_readLayer_26 V hT cal_X9_readSign cls_10 ml_X9_48 im_X9_readSign se_X9_readSign ht (by decide) rfl rfl (Nat.le_of_ble_eq_true rfl) (by decide) (by decide) (S_X9_readSign _ _ hc11) ?_
    refine r_if_ne (tgt := 34) C dX9_readLayer_29 (by decide) hF (fun hF => ?_) (fun hF => ?_)
    · refine r_aload_n C dX9_readLayer_34 rfl 0 rfl ?_
      refine k_gR C dX9_readLayer_35 fd_X9_37 (by decide) hF (fun x12 hF => ?_)
      refine r_iload_n C dX9_readLayer_38 rfl 1 rfl ?_
      refine r_aload_n C dX9_readLayer_39 rfl 0 rfl ?_
      refine r_iconst (v := 1) C dX9_readLayer_40 (by decide) ?_
      refine r_bipush (v := 6) C dX9_readLayer_41 (by decide) ?_
      obtain ⟨ht, hF⟩ := tst_some hF
      obtain ⟨r13, h14, hc15, hF⟩ := cl_some hF
      refine r_callV (As := [.int 1, .int 6]) C dX9_readLayer_43 V hT cal_X9_readDigit cls_10 ml_X9_51 im_X9_readDigit se_X9_readDigit ht (by decide) rfl rfl (Nat.le_of_ble_eq_true rfl) (by decide) (by decide) (S_X9_readDigit _ _ hc15) ?_
      refine k_sI C dX9_readLayer_46 hF (fun h16 hF => ?_)
      refine r_aload_n C dX9_readLayer_47 rfl 0 rfl ?_
      refine k_gR C dX9_readLayer_48 fd_X9_37 (by decide) hF (fun x17 hF => ?_)
      refine r_iload_n C dX9_readLayer_51 rfl 1 rfl ?_
      refine k_aI C dX9_readLayer_52 hF (fun x18 hF => ?_)
      refine r_iconst (v := (-1)) C dX9_readLayer_53 (by decide) ?_
      obtain ⟨k66, ek66, hF⟩ := jn_some hF
      have Jk66 : ∀  (h19 : PM), k66 h19 = some X → WP p l e (rmN 0 0 2) s m args below meth c D cy base ρ h0 0 0 2 (MQ below (QR D cy base ρ h0 (some (.int X.1)) X.2) args s 0 0 (fun q => base ≤ q)) 66 [] [] h19 := by
        intro h19 hF
        rw [ek66] at hF
        refine r_iconst (v := 0) C dX9_readLayer_66 (by decide) ?_
        exact k_zret C dX9_readLayer_67 hr (by decide) (by decide) hF
      refine r_icmp_eq (tgt := 66) C dX9_readLayer_54 (by decide) hF (fun hF => ?_) (fun hF => ?_)
      · exact r_sub [] rfl (Jk66  _ hF)
      · refine r_aload_n C dX9_readLayer_57 rfl 0 rfl ?_
        refine r_bipush (v := 64) C dX9_readLayer_58 (by decide) ?_
        obtain ⟨ht, hF⟩ := tst_some hF
        obtain ⟨r20, h21, hc22, hF⟩ := cl_some hF
        refine r_callV (As := [.int 64]) C dX9_readLayer_60 V hT cal_X9_readSign cls_10 ml_X9_48 im_X9_readSign se_X9_readSign ht (by decide) rfl rfl (Nat.le_of_ble_eq_true rfl) (by decide) (by decide) (S_X9_readSign _ _ hc22) ?_
        refine r_if_ne (tgt := 68) C dX9_readLayer_63 (by decide) hF (fun hF => ?_) (fun hF => ?_)
        · refine r_aload_n C dX9_readLayer_68 rfl 0 rfl ?_
          refine k_gR C dX9_readLayer_69 fd_X9_28 (by decide) hF (fun x23 hF => ?_)
          refine r_iload_n C dX9_readLayer_72 rfl 1 rfl ?_
          refine r_aload_n C dX9_readLayer_73 rfl 0 rfl ?_
          refine r_iconst (v := 0) C dX9_readLayer_74 (by decide) ?_
          refine r_bipush (v := 6) C dX9_readLayer_75 (by decide) ?_
          refine r_aload_n C dX9_readLayer_77 rfl 0 rfl ?_
          refine k_gR C dX9_readLayer_78 fd_X9_34 (by decide) hF (fun x24 hF => ?_)
          refine r_iload_n C dX9_readLayer_81 rfl 1 rfl ?_
          refine k_aI C dX9_readLayer_82 hF (fun x25 hF => ?_)
          refine r_isub C dX9_readLayer_83 ?_
          obtain ⟨ht, hF⟩ := tst_some hF
          obtain ⟨r26, h27, hc28, hF⟩ := cl_some hF
          refine r_callV (As := [.int 0, .int (6 - x25)]) C dX9_readLayer_84 V hT cal_X9_readDigit cls_10 ml_X9_51 im_X9_readDigit se_X9_readDigit ht (by decide) rfl rfl (Nat.le_of_ble_eq_true rfl) (by decide) (by decide) (S_X9_readDigit _ _ hc28) ?_
          refine k_sI C dX9_readLayer_87 hF (fun h29 hF => ?_)
          refine r_aload_n C dX9_readLayer_88 rfl 0 rfl ?_
          refine k_gR C dX9_readLayer_89 fd_X9_28 (by decide) hF (fun x30 hF => ?_)
          refine r_iload_n C dX9_readLayer_92 rfl 1 rfl ?_
          refine k_aI C dX9_readLayer_93 hF (fun x31 hF => ?_)
          refine r_iconst (v := (-1)) C dX9_readLayer_94 (by decide) ?_
          obtain ⟨k107, ek107, hF⟩ := jn_some hF
          have Jk107 : ∀  (h32 : PM), k107 h32 = some X → WP p l e (rmN 0 0 2) s m args below meth c D cy base ρ h0 0 0 2 (MQ below (QR D cy base ρ h0 (some (.int X.1)) X.2) args s 0 0 (fun q => base ≤ q)) 107 [] [] h32 := by
            intro h32 hF
            rw [ek107] at hF
            refine r_iconst (v := 0) C dX9_readLayer_107 (by decide) ?_
            exact k_zret C dX9_readLayer_108 hr (by decide) (by decide) hF
          refine r_icmp_eq (tgt := 107) C dX9_readLayer_95 (by decide) hF (fun hF => ?_) (fun hF => ?_)
          · exact r_sub [] rfl (Jk107  _ hF)
          · refine r_aload_n C dX9_readLayer_98 rfl 0 rfl ?_
            refine r_bipush (v := 44) C dX9_readLayer_99 (by decide) ?_
            obtain ⟨ht, hF⟩ := tst_some hF
            obtain ⟨r33, h34, hc35, hF⟩ := cl_some hF
            refine r_callV (As := [.int 44]) C dX9_readLayer_101 V hT cal_X9_readSign cls_10 ml_X9_48 im_X9_readSign se_X9_readSign ht (by decide) rfl rfl (Nat.le_of_ble_eq_true rfl) (by decide) (by decide) (S_X9_readSign _ _ hc35) ?_
            refine r_if_ne (tgt := 109) C dX9_readLayer_104 (by decide) hF (fun hF => ?_) (fun hF => ?_)
            · refine r_aload_n C dX9_readLayer_109 rfl 0 rfl ?_
              refine k_gR C dX9_readLayer_110 fd_X9_31 (by decide) hF (fun x36 hF => ?_)
              refine r_iload_n C dX9_readLayer_113 rfl 1 rfl ?_
              refine r_aload_n C dX9_readLayer_114 rfl 0 rfl ?_
              refine r_iconst (v := 0) C dX9_readLayer_115 (by decide) ?_
              refine r_bipush (v := 6) C dX9_readLayer_116 (by decide) ?_
              refine r_aload_n C dX9_readLayer_118 rfl 0 rfl ?_
              refine k_gR C dX9_readLayer_119 fd_X9_37 (by decide) hF (fun x37 hF => ?_)
              refine r_iload_n C dX9_readLayer_122 rfl 1 rfl ?_
              refine k_aI C dX9_readLayer_123 hF (fun x38 hF => ?_)
              refine r_isub C dX9_readLayer_124 ?_
              obtain ⟨ht, hF⟩ := tst_some hF
              obtain ⟨r39, h40, hc41, hF⟩ := cl_some hF
              refine r_callV (As := [.int 0, .int (6 - x38)]) C dX9_readLayer_125 V hT cal_X9_readDigit cls_10 ml_X9_51 im_X9_readDigit se_X9_readDigit ht (by decide) rfl rfl (Nat.le_of_ble_eq_true rfl) (by decide) (by decide) (S_X9_readDigit _ _ hc41) ?_
              refine k_sI C dX9_readLayer_128 hF (fun h42 hF => ?_)
              refine r_aload_n C dX9_readLayer_129 rfl 0 rfl ?_
              refine k_gR C dX9_readLayer_130 fd_X9_31 (by decide) hF (fun x43 hF => ?_)
              refine r_iload_n C dX9_readLayer_133 rfl 1 rfl ?_
              refine k_aI C dX9_readLayer_134 hF (fun x44 hF => ?_)
              refine r_iconst (v := (-1)) C dX9_readLayer_135 (by decide) ?_
              obtain ⟨k144, ek144, hF⟩ := jn_some hF
              have Jk144 : ∀ (s45 : Int32) (h46 : PM), k144 s45 h46 = some X → WP p l e (rmN 0 0 2) s m args below meth c D cy base ρ h0 0 0 2 (MQ below (QR D cy base ρ h0 (some (.int X.1)) X.2) args s 0 0 (fun q => base ≤ q)) 144 [] [.int s45] h46 := by
                intro s45 h46 hF
                rw [ek144] at hF
                exact k_zret C dX9_readLayer_144 hr (by decide) (by decide) hF
              refine r_icmp_eq (tgt := 143) C dX9_readLayer_136 (by decide) hF (fun hF => ?_) (fun hF => ?_)
              · refine r_iconst (v := 0) C dX9_readLayer_143 (by decide) ?_
                exact r_sub [] rfl (Jk144 _ _ hF)
              · refine r_iconst (v := 1) C dX9_readLayer_139 (by decide) ?_
                refine r_goto (tgt := 144) C dX9_readLayer_140 (by decide) ?_
                exact r_sub [] rfl (Jk144 _ _ hF)
            · exact r_sub [] rfl (Jk107  _ hF)
        · exact r_sub [] rfl (Jk66  _ hF)
    · exact r_sub [] rfl (Jk32  _ hF)
def F_X9_readModel_L12 (c0 : Nat) (k70 : PM → Option (Int32 × PM)) (k62 : PM → Option (Int32 × PM)) (k42 : PM → Option (Int32 × PM)) (k26 : PM → Option (Int32 × PM)) : Nat → Int32 → PM → Option (Int32 × PM)
  | 0, _, _ => none
  | fu + 1, v7, h8 => if 6 ≤ v7 then (k70 h8) else (tst h8 c0 10 (cl (F_X9_readLayer c0 v7 h8) fun r9 h10 => if ¬ r9 = 0 then (pI h10 c0 10 4 (v7 + 1) fun h12 => tst h12 c0 10 (cl (F_X9_isEnd c0 h12) fun r13 h14 => if r13 = 0 then (gI h14 c0 10 4 fun x16 => jn (fun  (h17 : PM) => F_X9_readModel_L12 c0 k70 k62 k42 k26 fu (v7 + 1) h17) fun k64 => if 6 ≤ x16 then (k64 h14) else (tst h14 c0 10 (cl (F_X9_readSign c0 59 h14) fun r19 h20 => if ¬ r19 = 0 then (k64 h20) else (k62 h20)))) else (k42 h14))) else (k26 h10)))
def F_X9_readModel (a0 : Nat) (a1 : Int32) (h0 : PM) : Option (Int32 × PM) := pI h0 a0 10 2 0 fun h1 => pI h1 a0 10 3 a1 fun h2 => jn (fun  (h3 : PM) => rz 0 h3) fun k70 => jn (fun  (h4 : PM) => rz 0 h4) fun k62 => jn (fun  (h5 : PM) => rz 1 h5) fun k42 => jn (fun  (h6 : PM) => rz 0 h6) fun k26 => F_X9_readModel_L12 a0 k70 k62 k42 k26 LF 0 h2
set_option maxRecDepth 100000 in
set_option maxHeartbeats 4000000 in
theorem S_X9_readModel {a0 : Nat} {a1 : Int32} {h0 : PM} (r : Int32) (h' : PM) (hF : F_X9_readModel a0 a1 h0 = some (r, h')) : CN yX9_readModel cX9_readModel 3 (some .boolean) 0 0 3 [.ref a0, .int a1] h0 (some (.int r)) h' := by
  obtain ⟨X, eX⟩ : ∃ X, X = (r, h') := ⟨_, rfl⟩
  rw [← eX] at hF
  have e1 : r = X.1 := by rw [eX]
  have e2 : h' = X.2 := by rw [eX]
  rw [e1, e2]
  clear eX e1 e2
  unfold F_X9_readModel at hF
  refine CN_of (by decide) (fun ρ => Nat.le_of_ble_eq_true rfl) rfl ?_
  intro p l e s m args below meth c D cy base ρ hT C V hr hnm
  refine r_aload_n C dX9_readModel_0 rfl 0 rfl ?_
  refine r_iconst (v := 0) C dX9_readModel_1 (by decide) ?_
  refine k_pI C dX9_readModel_2 fd_X9_19 (fun z => by cases z) (by decide) hF (fun h1 hF => ?_)
  refine r_aload_n C dX9_readModel_5 rfl 0 rfl ?_
  refine r_iload_n C dX9_readModel_6 rfl 1 rfl ?_
  refine k_pI C dX9_readModel_7 fd_X9_22 (fun z => by cases z) (by decide) hF (fun h2 hF => ?_)
  refine r_iconst (v := 0) C dX9_readModel_10 (by decide) ?_
  refine r_istore_n C dX9_readModel_11 rfl (by decide) rfl ?_
  obtain ⟨k70, ek70, hF⟩ := jn_some hF
  have Jk70 : ∀  (h3 : PM), k70 h3 = some X → WP p l e (rmN 0 0 3) s m args below meth c D cy base ρ h0 0 0 3 (MQ below (QR D cy base ρ h0 (some (.int X.1)) X.2) args s 0 0 (fun q => base ≤ q)) 70 [] [] h3 := by
    intro h3 hF
    rw [ek70] at hF
    refine r_iconst (v := 0) C dX9_readModel_70 (by decide) ?_
    exact k_zret C dX9_readModel_71 hr (by decide) (by decide) hF
  obtain ⟨k62, ek62, hF⟩ := jn_some hF
  have Jk62 : ∀  (h4 : PM), k62 h4 = some X → WP p l e (rmN 0 0 3) s m args below meth c D cy base ρ h0 0 0 3 (MQ below (QR D cy base ρ h0 (some (.int X.1)) X.2) args s 0 0 (fun q => base ≤ q)) 62 [] [] h4 := by
    intro h4 hF
    rw [ek62] at hF
    refine r_iconst (v := 0) C dX9_readModel_62 (by decide) ?_
    exact k_zret C dX9_readModel_63 hr (by decide) (by decide) hF
  obtain ⟨k42, ek42, hF⟩ := jn_some hF
  have Jk42 : ∀  (h5 : PM), k42 h5 = some X → WP p l e (rmN 0 0 3) s m args below meth c D cy base ρ h0 0 0 3 (MQ below (QR D cy base ρ h0 (some (.int X.1)) X.2) args s 0 0 (fun q => base ≤ q)) 42 [] [] h5 := by
    intro h5 hF
    rw [ek42] at hF
    refine r_iconst (v := 1) C dX9_readModel_42 (by decide) ?_
    exact k_zret C dX9_readModel_43 hr (by decide) (by decide) hF
  obtain ⟨k26, ek26, hF⟩ := jn_some hF
  have Jk26 : ∀  (h6 : PM), k26 h6 = some X → WP p l e (rmN 0 0 3) s m args below meth c D cy base ρ h0 0 0 3 (MQ below (QR D cy base ρ h0 (some (.int X.1)) X.2) args s 0 0 (fun q => base ≤ q)) 26 [] [] h6 := by
    intro h6 hF
    rw [ek26] at hF
    refine r_iconst (v := 0) C dX9_readModel_26 (by decide) ?_
    exact k_zret C dX9_readModel_27 hr (by decide) (by decide) hF
  have L12 : ∀ (fu : Nat) (v7 : Int32) (h8 : PM), F_X9_readModel_L12 a0 k70 k62 k42 k26 fu v7 h8 = some X → WP p l e (rmN 0 0 3) s m args below meth c D cy base ρ h0 0 0 3 (MQ below (QR D cy base ρ h0 (some (.int X.1)) X.2) args s 0 0 (fun q => base ≤ q)) 12 [(0, .ref a0), (2, .int v7)] [] h8 := by
    intro fu
    induction fu with
    | zero => intro v7 h8 hF; rw [F_X9_readModel_L12.eq_1] at hF; cases hF
    | succ fu ih =>
      intro v7 h8 hF
      rw [F_X9_readModel_L12.eq_2] at hF
      refine r_iload_n C dX9_readModel_12 rfl 1 rfl ?_
      refine r_bipush (v := 6) C dX9_readModel_13 (by decide) ?_
      refine r_icmp_ge (tgt := 70) C dX9_readModel_15 (by decide) hF (fun hF => ?_) (fun hF => ?_)
      · exact r_sub [] rfl (Jk70  _ hF)
      · refine r_aload_n C dX9_readModel_18 rfl 0 rfl ?_
        refine r_iload_n C dX9_readModel_19 rfl 1 rfl ?_
        obtain ⟨ht, hF⟩ := tst_some hF
        obtain ⟨r9, h10, hc11, hF⟩ := cl_some hF
        refine r_callV (As := [.int v7]) C dX9_readModel_20 V hT cal_X9_readLayer cls_10 ml_X9_40 im_X9_readLayer se_X9_readLayer ht (by decide) rfl rfl (Nat.le_of_ble_eq_true rfl) (by decide) (by decide) (S_X9_readLayer _ _ hc11) ?_
        refine r_if_ne (tgt := 28) C dX9_readModel_23 (by decide) hF (fun hF => ?_) (fun hF => ?_)
        · refine r_aload_n C dX9_readModel_28 rfl 0 rfl ?_
          refine r_iload_n C dX9_readModel_29 rfl 1 rfl ?_
          refine r_iconst (v := 1) C dX9_readModel_30 (by decide) ?_
          refine r_iadd C dX9_readModel_31 ?_
          refine k_pI C dX9_readModel_32 fd_X9_25 (fun z => by cases z) (by decide) hF (fun h12 hF => ?_)
          refine r_aload_n C dX9_readModel_35 rfl 0 rfl ?_
          obtain ⟨ht, hF⟩ := tst_some hF
          obtain ⟨r13, h14, hc15, hF⟩ := cl_some hF
          refine r_callV (As := []) C dX9_readModel_36 V hT cal_X9_isEnd cls_10 ml_X9_44 im_X9_isEnd se_X9_isEnd ht (by decide) rfl rfl (Nat.le_of_ble_eq_true rfl) (by decide) (by decide) (S_X9_isEnd _ _ hc15) ?_
          refine r_if_eq (tgt := 44) C dX9_readModel_39 (by decide) hF (fun hF => ?_) (fun hF => ?_)
          · refine r_aload_n C dX9_readModel_44 rfl 0 rfl ?_
            refine k_gI C dX9_readModel_45 fd_X9_25 (by decide) hF (fun x16 hF => ?_)
            refine r_bipush (v := 6) C dX9_readModel_48 (by decide) ?_
            obtain ⟨k64_17, ek64_17, hF⟩ := jn_some hF
            have Jk64_17 : ∀  (h18 : PM), k64_17 h18 = some X → WP p l e (rmN 0 0 3) s m args below meth c D cy base ρ h0 0 0 3 (MQ below (QR D cy base ρ h0 (some (.int X.1)) X.2) args s 0 0 (fun q => base ≤ q)) 64 [(0, .ref a0), (2, .int v7)] [] h18 := by
              intro h18 hF
              rw [ek64_17] at hF
              refine r_iinc (v := v7 + 1) C dX9_readModel_64 1 rfl (congrArg (fun z => v7 + z) (by decide)) (by decide) rfl ?_
              refine r_goto (tgt := 12) C dX9_readModel_67 (by decide) ?_
              exact r_sub [1, 0] rfl (ih _ _ hF)
            refine r_icmp_ge (tgt := 64) C dX9_readModel_50 (by decide) hF (fun hF => ?_) (fun hF => ?_)
            · exact Jk64_17  _ hF
            · refine r_aload_n C dX9_readModel_53 rfl 0 rfl ?_
              refine r_bipush (v := 59) C dX9_readModel_54 (by decide) ?_
              obtain ⟨ht, hF⟩ := tst_some hF
              obtain ⟨r20, h21, hc22, hF⟩ := cl_some hF
              refine r_callV (As := [.int 59]) C dX9_readModel_56 V hT cal_X9_readSign cls_10 ml_X9_48 im_X9_readSign se_X9_readSign ht (by decide) rfl rfl (Nat.le_of_ble_eq_true rfl) (by decide) (by decide) (S_X9_readSign _ _ hc22) ?_
              refine r_if_ne (tgt := 64) C dX9_readModel_59 (by decide) hF (fun hF => ?_) (fun hF => ?_)
              · exact Jk64_17  _ hF
              · exact r_sub [] rfl (Jk62  _ hF)
          · exact r_sub [] rfl (Jk42  _ hF)
        · exact r_sub [] rfl (Jk26  _ hF)
  exact r_sub [1, 0] rfl (L12 _ _ _ hF)
def F_X10_init (a0 : Nat) (h0 : PM) : Option (Unit × PM) := nA h0 ((a0 + 1)) 20 2048 fun h1 => pR h1 a0 11 0 ((a0 + 1)) fun h2 => nA h2 ((a0 + 2)) 20 64 fun h3 => pR h3 a0 11 1 ((a0 + 2)) fun h4 => nA h4 ((a0 + 3)) 20 8 fun h5 => pR h5 a0 11 2 ((a0 + 3)) fun h6 => some ((), h6)
set_option maxRecDepth 100000 in
set_option maxHeartbeats 4000000 in
theorem S_X10_init {a0 : Nat} {h0 : PM} (r : Unit) (h' : PM) (hF : F_X10_init a0 h0 = some (r, h')) : CN yX10_init cX10_init 1 none 3 2120 1 [.ref a0] h0 none h' := by
  obtain ⟨X, eX⟩ : ∃ X, X = (r, h') := ⟨_, rfl⟩
  rw [← eX] at hF
  have e1 : r = X.1 := by rw [eX]
  have e2 : h' = X.2 := by rw [eX]
  rw [e2]
  clear eX e1 e2
  unfold F_X10_init at hF
  refine CN_of (by decide) (fun ρ => Nat.le_of_ble_eq_true rfl) rfl ?_
  intro p l e s m args below meth c D cy base ρ hT C V hr hnm
  refine r_aload_n C dX10_init_0 rfl 0 rfl ?_
  refine r_objInit C dX10_init_1 ml_X10_3 im_obj cd_obj (by decide) (Nat.le_of_ble_eq_true rfl) ?_
  refine r_aload_n C dX10_init_4 rfl 0 rfl ?_
  refine r_sipush (v := 2048) C dX10_init_5 (by decide) ?_
  refine k_newi (N := 2048) (a := (a0 + 1)) C dX10_init_8 ac_int (by decide) (by decide) (by decide) hF (fun h1 hF => ?_)
  refine k_pR C dX10_init_10 fd_X10_11 (fun _ => hnm) (by decide) hF (fun h2 hF => ?_)
  refine r_aload_n C dX10_init_13 rfl 0 rfl ?_
  refine r_bipush (v := 64) C dX10_init_14 (by decide) ?_
  refine k_newi (N := 64) (a := (a0 + 2)) C dX10_init_16 ac_int (by decide) (by decide) (by decide) hF (fun h3 hF => ?_)
  refine k_pR C dX10_init_18 fd_X10_15 (fun _ => hnm) (by decide) hF (fun h4 hF => ?_)
  refine r_aload_n C dX10_init_21 rfl 0 rfl ?_
  refine r_bipush (v := 8) C dX10_init_22 (by decide) ?_
  refine k_newi (N := 8) (a := (a0 + 3)) C dX10_init_24 ac_int (by decide) (by decide) (by decide) hF (fun h5 hF => ?_)
  refine k_pR C dX10_init_26 fd_X10_18 (fun _ => hnm) (by decide) hF (fun h6 hF => ?_)
  exact k_vret C dX10_init_29 hr (by decide) (by decide) hF
def F_X10_through (a0 : Nat) (a1 : Int32) (a2 : Int32) (a3 : Int32) (h0 : PM) : Option (Int32 × PM) := jn (fun (s1 : Int32) (h2 : PM) => gR h2 a0 11 0 fun x3 => aI h2 x3 (((a1 ||| ((1 : Int32) <<< (a3 &&& 31))) * 8) + a3) fun x4 => some (s1 + x4, h2)) fun k25 => if ¬ a2 = (-1) then (gR h0 a0 11 1 fun x5 => aI h0 x5 ((a2 * 8) + a3) fun x6 => k25 x6 h0) else (gR h0 a0 11 2 fun x7 => aI h0 x7 a3 fun x8 => k25 x8 h0)
set_option maxRecDepth 100000 in
set_option maxHeartbeats 4000000 in
theorem S_X10_through {a0 : Nat} {a1 : Int32} {a2 : Int32} {a3 : Int32} {h0 : PM} (r : Int32) (h' : PM) (hF : F_X10_through a0 a1 a2 a3 h0 = some (r, h')) : CN yX10_through cX10_through 5 (some .int) 0 0 0 [.ref a0, .int a1, .int a2, .int a3] h0 (some (.int r)) h' := by
  obtain ⟨X, eX⟩ : ∃ X, X = (r, h') := ⟨_, rfl⟩
  rw [← eX] at hF
  have e1 : r = X.1 := by rw [eX]
  have e2 : h' = X.2 := by rw [eX]
  rw [e1, e2]
  clear eX e1 e2
  unfold F_X10_through at hF
  refine CN_of (by decide) (fun ρ => Nat.le_of_ble_eq_true rfl) rfl ?_
  intro p l e s m args below meth c D cy base ρ hT C V hr hnm
  refine r_iload_n C dX10_through_0 rfl 2 rfl ?_
  refine r_iconst (v := (-1)) C dX10_through_1 (by decide) ?_
  obtain ⟨k25, ek25, hF⟩ := jn_some hF
  have Jk25 : ∀ (s1 : Int32) (h2 : PM), k25 s1 h2 = some X → WP p l e (rmN 0 0 0) s m args below meth c D cy base ρ h0 0 0 5 (MQ below (QR D cy base ρ h0 (some (.int X.1)) X.2) args s 0 0 (fun q => base ≤ q)) 25 [(0, .ref a0), (1, .int a1), (3, .int a3)] [.int s1] h2 := by
    intro s1 h2 hF
    rw [ek25] at hF
    refine r_istore C dX10_through_25 (by decide) rfl ?_
    refine r_iload C dX10_through_27 0 rfl ?_
    refine r_aload_n C dX10_through_29 rfl 1 rfl ?_
    refine k_gR C dX10_through_30 fd_X10_11 (by decide) hF (fun x3 hF => ?_)
    refine r_iload_n C dX10_through_33 rfl 2 rfl ?_
    refine r_iconst (v := 1) C dX10_through_34 (by decide) ?_
    refine r_iload_n C dX10_through_35 rfl 3 rfl ?_
    refine r_ishl C dX10_through_36 ?_
    refine r_ior C dX10_through_37 ?_
    refine r_bipush (v := 8) C dX10_through_38 (by decide) ?_
    refine r_imul C dX10_through_40 ?_
    refine r_iload_n C dX10_through_41 rfl 3 rfl ?_
    refine r_iadd C dX10_through_42 ?_
    refine k_aI C dX10_through_43 hF (fun x4 hF => ?_)
    refine r_iadd C dX10_through_44 ?_
    exact k_iret C dX10_through_45 hr (by decide) (by decide) hF
  refine r_icmp_ne (tgt := 14) C dX10_through_2 (by decide) hF (fun hF => ?_) (fun hF => ?_)
  · refine r_aload_n C dX10_through_14 rfl 0 rfl ?_
    refine k_gR C dX10_through_15 fd_X10_15 (by decide) hF (fun x5 hF => ?_)
    refine r_iload_n C dX10_through_18 rfl 2 rfl ?_
    refine r_bipush (v := 8) C dX10_through_19 (by decide) ?_
    refine r_imul C dX10_through_21 ?_
    refine r_iload_n C dX10_through_22 rfl 3 rfl ?_
    refine r_iadd C dX10_through_23 ?_
    refine k_aI C dX10_through_24 hF (fun x6 hF => ?_)
    exact r_sub [0, 1, 3] rfl (Jk25 _ _ hF)
  · refine r_aload_n C dX10_through_5 rfl 0 rfl ?_
    refine k_gR C dX10_through_6 fd_X10_18 (by decide) hF (fun x7 hF => ?_)
    refine r_iload_n C dX10_through_9 rfl 3 rfl ?_
    refine k_aI C dX10_through_10 hF (fun x8 hF => ?_)
    refine r_goto (tgt := 25) C dX10_through_11 (by decide) ?_
    exact r_sub [0, 1, 3] rfl (Jk25 _ _ hF)
def F_X10_shortest_L6 (c0 : Nat) (c1 : Int32) (c2 : Int32) (c3 : Int32) (k60 : Int32 → PM → Option (Int32 × PM)) : Nat → Int32 → Int32 → PM → Option (Int32 × PM)
  | 0, _, _, _ => none
  | fu + 1, v5, v6, h7 => if c3 ≤ v6 then (k60 v5 h7) else (cl (F_X11_holds (Int32.toInt64 c1) v6 h7) fun r8 h9 => jn (fun (v11 : Int32) (h12 : PM) => F_X10_shortest_L6 c0 c1 c2 c3 k60 fu v11 (v6 + 1) h12) fun k54 => if ¬ r8 = 0 then (k54 v5 h9) else (tst h9 c0 11 (cl (F_X10_through c0 c1 c2 v6 h9) fun r14 h15 => jn (fun (s17 : Int32) (h18 : PM) => k54 s17 h18) fun k52 => jn (fun  (h19 : PM) => k52 r14 h19) fun k45 => if v5 = (-1) then (k45 h15) else (if v5 ≤ r14 then (k52 v5 h15) else (k45 h15)))))
def F_X10_shortest (a0 : Nat) (a1 : Int32) (a2 : Int32) (a3 : Int32) (h0 : PM) : Option (Int32 × PM) := jn (fun (v1 : Int32) (h2 : PM) => jn (fun (s3 : Int32) (h4 : PM) => some (s3, h4)) fun k72 => if ¬ v1 = (-1) then (k72 v1 h2) else (k72 0 h2)) fun k60 => F_X10_shortest_L6 a0 a1 a2 a3 k60 LF (-1) 0 h0
set_option maxRecDepth 100000 in
set_option maxHeartbeats 4000000 in
theorem S_X10_shortest {a0 : Nat} {a1 : Int32} {a2 : Int32} {a3 : Int32} {h0 : PM} (r : Int32) (h' : PM) (hF : F_X10_shortest a0 a1 a2 a3 h0 = some (r, h')) : CN yX10_shortest cX10_shortest 7 (some .int) 0 0 1 [.ref a0, .int a1, .int a2, .int a3] h0 (some (.int r)) h' := by
  obtain ⟨X, eX⟩ : ∃ X, X = (r, h') := ⟨_, rfl⟩
  rw [← eX] at hF
  have e1 : r = X.1 := by rw [eX]
  have e2 : h' = X.2 := by rw [eX]
  rw [e1, e2]
  clear eX e1 e2
  unfold F_X10_shortest at hF
  refine CN_of (by decide) (fun ρ => Nat.le_of_ble_eq_true rfl) rfl ?_
  intro p l e s m args below meth c D cy base ρ hT C V hr hnm
  refine r_iconst (v := (-1)) C dX10_shortest_0 (by decide) ?_
  refine r_istore C dX10_shortest_1 (by decide) rfl ?_
  refine r_iconst (v := 0) C dX10_shortest_3 (by decide) ?_
  refine r_istore C dX10_shortest_4 (by decide) rfl ?_
  obtain ⟨k60, ek60, hF⟩ := jn_some hF
  have Jk60 : ∀ (v1 : Int32) (h2 : PM), k60 v1 h2 = some X → WP p l e (rmN 0 0 1) s m args below meth c D cy base ρ h0 0 0 7 (MQ below (QR D cy base ρ h0 (some (.int X.1)) X.2) args s 0 0 (fun q => base ≤ q)) 60 [(4, .int v1)] [] h2 := by
    intro v1 h2 hF
    rw [ek60] at hF
    refine r_iload C dX10_shortest_60 0 rfl ?_
    refine r_iconst (v := (-1)) C dX10_shortest_62 (by decide) ?_
    obtain ⟨k72, ek72, hF⟩ := jn_some hF
    have Jk72 : ∀ (s3 : Int32) (h4 : PM), k72 s3 h4 = some X → WP p l e (rmN 0 0 1) s m args below meth c D cy base ρ h0 0 0 7 (MQ below (QR D cy base ρ h0 (some (.int X.1)) X.2) args s 0 0 (fun q => base ≤ q)) 72 [] [.int s3] h4 := by
      intro s3 h4 hF
      rw [ek72] at hF
      exact k_iret C dX10_shortest_72 hr (by decide) (by decide) hF
    refine r_icmp_ne (tgt := 70) C dX10_shortest_63 (by decide) hF (fun hF => ?_) (fun hF => ?_)
    · refine r_iload C dX10_shortest_70 0 rfl ?_
      exact r_sub [] rfl (Jk72 _ _ hF)
    · refine r_iconst (v := 0) C dX10_shortest_66 (by decide) ?_
      refine r_goto (tgt := 72) C dX10_shortest_67 (by decide) ?_
      exact r_sub [] rfl (Jk72 _ _ hF)
  have L6 : ∀ (fu : Nat) (v5 : Int32) (v6 : Int32) (h7 : PM), F_X10_shortest_L6 a0 a1 a2 a3 k60 fu v5 v6 h7 = some X → WP p l e (rmN 0 0 1) s m args below meth c D cy base ρ h0 0 0 7 (MQ below (QR D cy base ρ h0 (some (.int X.1)) X.2) args s 0 0 (fun q => base ≤ q)) 6 [(0, .ref a0), (1, .int a1), (2, .int a2), (3, .int a3), (4, .int v5), (5, .int v6)] [] h7 := by
    intro fu
    induction fu with
    | zero => intro v5 v6 h7 hF; rw [F_X10_shortest_L6.eq_1] at hF; cases hF
    | succ fu ih =>
      intro v5 v6 h7 hF
      rw [F_X10_shortest_L6.eq_2] at hF
      refine r_iload C dX10_shortest_6 5 rfl ?_
      refine r_iload_n C dX10_shortest_8 rfl 3 rfl ?_
      refine r_icmp_ge (tgt := 60) C dX10_shortest_9 (by decide) hF (fun hF => ?_) (fun hF => ?_)
      · exact r_sub [4] rfl (Jk60 _ _ hF)
      · refine r_iload_n C dX10_shortest_12 rfl 1 rfl ?_
        refine r_i2l C dX10_shortest_13 ?_
        refine r_iload C dX10_shortest_14 5 rfl ?_
        obtain ⟨r8, h9, hc10, hF⟩ := cl_some hF
        refine r_callSN (As := [.long (Int32.toInt64 a1), .int v6]) C dX10_shortest_16 V hT cal_X11_holds mn_X10_37 sm_X11_holds (by decide) rfl rfl (Nat.le_of_ble_eq_true rfl) (by decide) (by decide) (S_X11_holds _ _ hc10) ?_
        obtain ⟨k54_12, ek54_12, hF⟩ := jn_some hF
        have Jk54_12 : ∀ (v11 : Int32) (h13 : PM), k54_12 v11 h13 = some X → WP p l e (rmN 0 0 1) s m args below meth c D cy base ρ h0 0 0 7 (MQ below (QR D cy base ρ h0 (some (.int X.1)) X.2) args s 0 0 (fun q => base ≤ q)) 54 [(0, .ref a0), (1, .int a1), (2, .int a2), (3, .int a3), (4, .int v11), (5, .int v6)] [] h13 := by
          intro v11 h13 hF
          rw [ek54_12] at hF
          refine r_iinc (v := v6 + 1) C dX10_shortest_54 5 rfl (congrArg (fun z => v6 + z) (by decide)) (by decide) rfl ?_
          refine r_goto (tgt := 6) C dX10_shortest_57 (by decide) ?_
          exact r_sub [1, 2, 3, 4, 5, 0] rfl (ih _ _ _ hF)
        refine r_if_ne (tgt := 54) C dX10_shortest_19 (by decide) hF (fun hF => ?_) (fun hF => ?_)
        · exact Jk54_12 _ _ hF
        · refine r_aload_n C dX10_shortest_22 rfl 0 rfl ?_
          refine r_iload_n C dX10_shortest_23 rfl 1 rfl ?_
          refine r_iload_n C dX10_shortest_24 rfl 2 rfl ?_
          refine r_iload C dX10_shortest_25 5 rfl ?_
          obtain ⟨ht, hF⟩ := tst_some hF
          obtain ⟨r15, h16, hc17, hF⟩ := cl_some hF
          refine r_callV (As := [.int a1, .int a2, .int v6]) C dX10_shortest_27 V hT cal_X10_through cls_11 ml_X10_64 im_X10_through se_X10_through ht (by decide) rfl rfl (Nat.le_of_ble_eq_true rfl) (by decide) (by decide) (S_X10_through _ _ hc17) ?_
          refine r_istore C dX10_shortest_30 (by decide) rfl ?_
          refine r_iload C dX10_shortest_32 5 rfl ?_
          refine r_iconst (v := (-1)) C dX10_shortest_34 (by decide) ?_
          obtain ⟨k52_19, ek52_19, hF⟩ := jn_some hF
          have Jk52_19 : ∀ (s18 : Int32) (h20 : PM), k52_19 s18 h20 = some X → WP p l e (rmN 0 0 1) s m args below meth c D cy base ρ h0 0 0 7 (MQ below (QR D cy base ρ h0 (some (.int X.1)) X.2) args s 0 0 (fun q => base ≤ q)) 52 [(0, .ref a0), (1, .int a1), (2, .int a2), (3, .int a3), (5, .int v6)] [.int s18] h20 := by
            intro s18 h20 hF
            rw [ek52_19] at hF
            refine r_istore C dX10_shortest_52 (by decide) rfl ?_
            exact r_sub [1, 2, 3, 4, 0, 5] rfl (Jk54_12 _ _ hF)
          obtain ⟨k45_21, ek45_21, hF⟩ := jn_some hF
          have Jk45_21 : ∀  (h22 : PM), k45_21 h22 = some X → WP p l e (rmN 0 0 1) s m args below meth c D cy base ρ h0 0 0 7 (MQ below (QR D cy base ρ h0 (some (.int X.1)) X.2) args s 0 0 (fun q => base ≤ q)) 45 [(0, .ref a0), (1, .int a1), (2, .int a2), (3, .int a3), (5, .int v6), (6, .int r15)] [] h22 := by
            intro h22 hF
            rw [ek45_21] at hF
            refine r_iload C dX10_shortest_45 5 rfl ?_
            refine r_goto (tgt := 52) C dX10_shortest_47 (by decide) ?_
            exact r_sub [0, 1, 2, 3, 4] rfl (Jk52_19 _ _ hF)
          refine r_icmp_eq (tgt := 45) C dX10_shortest_35 (by decide) hF (fun hF => ?_) (fun hF => ?_)
          · exact r_sub [1, 2, 3, 4, 6, 0] rfl (Jk45_21  _ hF)
          · refine r_iload C dX10_shortest_38 0 rfl ?_
            refine r_iload C dX10_shortest_40 5 rfl ?_
            refine r_icmp_ge (tgt := 50) C dX10_shortest_42 (by decide) hF (fun hF => ?_) (fun hF => ?_)
            · refine r_iload C dX10_shortest_50 5 rfl ?_
              exact r_sub [1, 2, 3, 4, 6] rfl (Jk52_19 _ _ hF)
            · exact r_sub [1, 2, 3, 4, 6, 0] rfl (Jk45_21  _ hF)
  exact r_sub [2, 3, 4, 5, 1, 0] rfl (L6 _ _ _ _ hF)
def F_X10_firstOfShortest_L12 (c0 : Nat) (c1 : Int32) (c2 : Int32) (c3 : Int32) (c4 : Int32) (k49 : Int32 → PM → Option (Int32 × PM)) : Nat → Int32 → PM → Option (Int32 × PM)
  | 0, _, _ => none
  | fu + 1, v6, h7 => if (c3 - 1) ≤ v6 then (k49 v6 h7) else (cl (F_X11_holds (Int32.toInt64 c1) v6 h7) fun r8 h9 => jn (fun  (h11 : PM) => F_X10_firstOfShortest_L12 c0 c1 c2 c3 c4 k49 fu (v6 + 1) h11) fun k43 => if ¬ r8 = 0 then (k43 h9) else (tst h9 c0 11 (cl (F_X10_through c0 c1 c2 v6 h9) fun r13 h14 => if r13 = c4 then (k49 v6 h14) else (k43 h14))))
def F_X10_firstOfShortest (a0 : Nat) (a1 : Int32) (a2 : Int32) (a3 : Int32) (h0 : PM) : Option (Int32 × PM) := tst h0 a0 11 (cl (F_X10_shortest a0 a1 a2 a3 h0) fun r1 h2 => jn (fun (v4 : Int32) (h5 : PM) => some (v4, h5)) fun k49 => F_X10_firstOfShortest_L12 a0 a1 a2 a3 r1 k49 LF 0 h2)
set_option maxRecDepth 100000 in
set_option maxHeartbeats 4000000 in
theorem S_X10_firstOfShortest {a0 : Nat} {a1 : Int32} {a2 : Int32} {a3 : Int32} {h0 : PM} (r : Int32) (h' : PM) (hF : F_X10_firstOfShortest a0 a1 a2 a3 h0 = some (r, h')) : CN yX10_firstOfShortest cX10_firstOfShortest 6 (some .int) 0 0 2 [.ref a0, .int a1, .int a2, .int a3] h0 (some (.int r)) h' := by
  obtain ⟨X, eX⟩ : ∃ X, X = (r, h') := ⟨_, rfl⟩
  rw [← eX] at hF
  have e1 : r = X.1 := by rw [eX]
  have e2 : h' = X.2 := by rw [eX]
  rw [e1, e2]
  clear eX e1 e2
  unfold F_X10_firstOfShortest at hF
  refine CN_of (by decide) (fun ρ => Nat.le_of_ble_eq_true rfl) rfl ?_
  intro p l e s m args below meth c D cy base ρ hT C V hr hnm
  refine r_aload_n C dX10_firstOfShortest_0 rfl 0 rfl ?_
  refine r_iload_n C dX10_firstOfShortest_1 rfl 1 rfl ?_
  refine r_iload_n C dX10_firstOfShortest_2 rfl 2 rfl ?_
  refine r_iload_n C dX10_firstOfShortest_3 rfl 3 rfl ?_
  obtain ⟨ht, hF⟩ := tst_some hF
  obtain ⟨r1, h2, hc3, hF⟩ := cl_some hF
  refine r_callV (As := [.int a1, .int a2, .int a3]) C dX10_firstOfShortest_4 V hT cal_X10_shortest cls_11 ml_X10_41 im_X10_shortest se_X10_shortest ht (by decide) rfl rfl (Nat.le_of_ble_eq_true rfl) (by decide) (by decide) (S_X10_shortest _ _ hc3) ?_
  refine r_istore C dX10_firstOfShortest_7 (by decide) rfl ?_
  refine r_iconst (v := 0) C dX10_firstOfShortest_9 (by decide) ?_
  refine r_istore C dX10_firstOfShortest_10 (by decide) rfl ?_
  obtain ⟨k49, ek49, hF⟩ := jn_some hF
  have Jk49 : ∀ (v4 : Int32) (h5 : PM), k49 v4 h5 = some X → WP p l e (rmN 0 0 2) s m args below meth c D cy base ρ h0 0 0 6 (MQ below (QR D cy base ρ h0 (some (.int X.1)) X.2) args s 0 0 (fun q => base ≤ q)) 49 [(5, .int v4)] [] h5 := by
    intro v4 h5 hF
    rw [ek49] at hF
    refine r_iload C dX10_firstOfShortest_49 0 rfl ?_
    exact k_iret C dX10_firstOfShortest_51 hr (by decide) (by decide) hF
  have L12 : ∀ (fu : Nat) (v6 : Int32) (h7 : PM), F_X10_firstOfShortest_L12 a0 a1 a2 a3 r1 k49 fu v6 h7 = some X → WP p l e (rmN 0 0 2) s m args below meth c D cy base ρ h0 0 0 6 (MQ below (QR D cy base ρ h0 (some (.int X.1)) X.2) args s 0 0 (fun q => base ≤ q)) 12 [(0, .ref a0), (1, .int a1), (2, .int a2), (3, .int a3), (4, .int r1), (5, .int v6)] [] h7 := by
    intro fu
    induction fu with
    | zero => intro v6 h7 hF; rw [F_X10_firstOfShortest_L12.eq_1] at hF; cases hF
    | succ fu ih =>
      intro v6 h7 hF
      rw [F_X10_firstOfShortest_L12.eq_2] at hF
      refine r_iload C dX10_firstOfShortest_12 5 rfl ?_
      refine r_iload_n C dX10_firstOfShortest_14 rfl 3 rfl ?_
      refine r_iconst (v := 1) C dX10_firstOfShortest_15 (by decide) ?_
      refine r_isub C dX10_firstOfShortest_16 ?_
      refine r_icmp_ge (tgt := 49) C dX10_firstOfShortest_17 (by decide) hF (fun hF => ?_) (fun hF => ?_)
      · exact r_sub [5] rfl (Jk49 _ _ hF)
      · refine r_iload_n C dX10_firstOfShortest_20 rfl 1 rfl ?_
        refine r_i2l C dX10_firstOfShortest_21 ?_
        refine r_iload C dX10_firstOfShortest_22 5 rfl ?_
        obtain ⟨r8, h9, hc10, hF⟩ := cl_some hF
        refine r_callSN (As := [.long (Int32.toInt64 a1), .int v6]) C dX10_firstOfShortest_24 V hT cal_X11_holds mn_X10_37 sm_X11_holds (by decide) rfl rfl (Nat.le_of_ble_eq_true rfl) (by decide) (by decide) (S_X11_holds _ _ hc10) ?_
        obtain ⟨k43_11, ek43_11, hF⟩ := jn_some hF
        have Jk43_11 : ∀  (h12 : PM), k43_11 h12 = some X → WP p l e (rmN 0 0 2) s m args below meth c D cy base ρ h0 0 0 6 (MQ below (QR D cy base ρ h0 (some (.int X.1)) X.2) args s 0 0 (fun q => base ≤ q)) 43 [(0, .ref a0), (1, .int a1), (2, .int a2), (3, .int a3), (4, .int r1), (5, .int v6)] [] h12 := by
          intro h12 hF
          rw [ek43_11] at hF
          refine r_iinc (v := v6 + 1) C dX10_firstOfShortest_43 5 rfl (congrArg (fun z => v6 + z) (by decide)) (by decide) rfl ?_
          refine r_goto (tgt := 12) C dX10_firstOfShortest_46 (by decide) ?_
          exact r_sub [1, 2, 3, 4, 5, 0] rfl (ih _ _ hF)
        refine r_if_ne (tgt := 43) C dX10_firstOfShortest_27 (by decide) hF (fun hF => ?_) (fun hF => ?_)
        · exact Jk43_11  _ hF
        · refine r_aload_n C dX10_firstOfShortest_30 rfl 0 rfl ?_
          refine r_iload_n C dX10_firstOfShortest_31 rfl 1 rfl ?_
          refine r_iload_n C dX10_firstOfShortest_32 rfl 2 rfl ?_
          refine r_iload C dX10_firstOfShortest_33 5 rfl ?_
          obtain ⟨ht, hF⟩ := tst_some hF
          obtain ⟨r14, h15, hc16, hF⟩ := cl_some hF
          refine r_callV (As := [.int a1, .int a2, .int v6]) C dX10_firstOfShortest_35 V hT cal_X10_through cls_11 ml_X10_64 im_X10_through se_X10_through ht (by decide) rfl rfl (Nat.le_of_ble_eq_true rfl) (by decide) (by decide) (S_X10_through _ _ hc16) ?_
          refine r_iload C dX10_firstOfShortest_38 4 rfl ?_
          refine r_icmp_eq (tgt := 49) C dX10_firstOfShortest_40 (by decide) hF (fun hF => ?_) (fun hF => ?_)
          · exact r_sub [5] rfl (Jk49 _ _ hF)
          · exact Jk43_11  _ hF
  exact r_sub [2, 3, 4, 5, 1, 0] rfl (L12 _ _ _ hF)
def F_X10_follow_L8 (c0 : Nat) (c1 : Nat) (c2 : Int32) (k50 : PM → Option (Unit × PM)) : Nat → Int32 → Int32 → Int32 → PM → Option (Unit × PM)
  | 0, _, _, _, _ => none
  | fu + 1, v2, v3, v4, h5 => if c2 ≤ v4 then (k50 h5) else (tst h5 c0 11 (cl (F_X10_firstOfShortest c0 v2 v3 c2 h5) fun r6 h7 => gR h7 c1 9 12 fun x9 => sI h7 x9 v4 r6 fun h10 => lt_ (v2 ||| ((1 : Int32) <<< (r6 &&& 31))) fun x11 => F_X10_follow_L8 c0 c1 c2 k50 fu x11 r6 (v4 + 1) h10))
def F_X10_follow (a0 : Nat) (a1 : Nat) (a2 : Int32) (h0 : PM) : Option (Unit × PM) := jn (fun  (h1 : PM) => some ((), h1)) fun k50 => F_X10_follow_L8 a0 a1 a2 k50 LF 0 (-1) 0 h0
set_option maxRecDepth 100000 in
set_option maxHeartbeats 4000000 in
theorem S_X10_follow {a0 : Nat} {a1 : Nat} {a2 : Int32} {h0 : PM} (r : Unit) (h' : PM) (hF : F_X10_follow a0 a1 a2 h0 = some (r, h')) : CN yX10_follow cX10_follow 7 none 0 0 3 [.ref a0, .ref a1, .int a2] h0 none h' := by
  obtain ⟨X, eX⟩ : ∃ X, X = (r, h') := ⟨_, rfl⟩
  rw [← eX] at hF
  have e1 : r = X.1 := by rw [eX]
  have e2 : h' = X.2 := by rw [eX]
  rw [e2]
  clear eX e1 e2
  unfold F_X10_follow at hF
  refine CN_of (by decide) (fun ρ => Nat.le_of_ble_eq_true rfl) rfl ?_
  intro p l e s m args below meth c D cy base ρ hT C V hr hnm
  refine r_iconst (v := 0) C dX10_follow_0 (by decide) ?_
  refine r_istore_n C dX10_follow_1 rfl (by decide) rfl ?_
  refine r_iconst (v := (-1)) C dX10_follow_2 (by decide) ?_
  refine r_istore C dX10_follow_3 (by decide) rfl ?_
  refine r_iconst (v := 0) C dX10_follow_5 (by decide) ?_
  refine r_istore C dX10_follow_6 (by decide) rfl ?_
  obtain ⟨k50, ek50, hF⟩ := jn_some hF
  have Jk50 : ∀  (h1 : PM), k50 h1 = some X → WP p l e (rmN 0 0 3) s m args below meth c D cy base ρ h0 0 0 7 (MQ below (QR D cy base ρ h0 none X.2) args s 0 0 (fun q => base ≤ q)) 50 [] [] h1 := by
    intro h1 hF
    rw [ek50] at hF
    exact k_vret C dX10_follow_50 hr (by decide) (by decide) hF
  have L8 : ∀ (fu : Nat) (v2 : Int32) (v3 : Int32) (v4 : Int32) (h5 : PM), F_X10_follow_L8 a0 a1 a2 k50 fu v2 v3 v4 h5 = some X → WP p l e (rmN 0 0 3) s m args below meth c D cy base ρ h0 0 0 7 (MQ below (QR D cy base ρ h0 none X.2) args s 0 0 (fun q => base ≤ q)) 8 [(0, .ref a0), (1, .ref a1), (2, .int a2), (3, .int v2), (4, .int v3), (5, .int v4)] [] h5 := by
    intro fu
    induction fu with
    | zero => intro v2 v3 v4 h5 hF; rw [F_X10_follow_L8.eq_1] at hF; cases hF
    | succ fu ih =>
      intro v2 v3 v4 h5 hF
      rw [F_X10_follow_L8.eq_2] at hF
      refine r_iload C dX10_follow_8 5 rfl ?_
      refine r_iload_n C dX10_follow_10 rfl 2 rfl ?_
      refine r_icmp_ge (tgt := 50) C dX10_follow_11 (by decide) hF (fun hF => ?_) (fun hF => ?_)
      · exact r_sub [] rfl (Jk50  _ hF)
      · refine r_aload_n C dX10_follow_14 rfl 0 rfl ?_
        refine r_iload_n C dX10_follow_15 rfl 3 rfl ?_
        refine r_iload C dX10_follow_16 4 rfl ?_
        refine r_iload_n C dX10_follow_18 rfl 2 rfl ?_
        obtain ⟨ht, hF⟩ := tst_some hF
        obtain ⟨r6, h7, hc8, hF⟩ := cl_some hF
        refine r_callV (As := [.int v2, .int v3, .int a2]) C dX10_follow_19 V hT cal_X10_firstOfShortest cls_11 ml_X10_67 im_X10_firstOfShortest se_X10_firstOfShortest ht (by decide) rfl rfl (Nat.le_of_ble_eq_true rfl) (by decide) (by decide) (S_X10_firstOfShortest _ _ hc8) ?_
        refine r_istore C dX10_follow_22 (by decide) rfl ?_
        refine r_aload_n C dX10_follow_24 rfl 2 rfl ?_
        refine k_gRr C dX10_follow_25 fr_X10_70 (by decide) hF (fun x9 hF => ?_)
        refine r_iload C dX10_follow_28 6 rfl ?_
        refine r_iload C dX10_follow_30 0 rfl ?_
        refine k_sI C dX10_follow_32 hF (fun h10 hF => ?_)
        refine r_iload_n C dX10_follow_33 rfl 4 rfl ?_
        refine r_iconst (v := 1) C dX10_follow_34 (by decide) ?_
        refine r_iload C dX10_follow_35 0 rfl ?_
        refine r_ishl C dX10_follow_37 ?_
        refine r_ior C dX10_follow_38 ?_
        refine k_lti hF (fun x11 hF => ?_)
        refine r_istore_n C dX10_follow_39 rfl (by decide) rfl ?_
        refine r_iload C dX10_follow_40 1 rfl ?_
        refine r_istore C dX10_follow_42 (by decide) rfl ?_
        refine r_iinc (v := v4 + 1) C dX10_follow_44 6 rfl (congrArg (fun z => v4 + z) (by decide)) (by decide) rfl ?_
        refine r_goto (tgt := 8) C dX10_follow_47 (by decide) ?_
        exact r_sub [4, 5, 6, 2, 1, 0] rfl (ih _ _ _ _ hF)
  exact r_sub [3, 4, 5, 2, 1, 0] rfl (L8 _ _ _ _ _ hF)
def F_X10_way (a0 : Int32) (a1 : Int32) (h0 : PM) : Option (Int32 × PM) := lt_ (ab a0) fun x1 => some ((mn x1 (96 - x1)) + (2 * (ab a1)), h0)
set_option maxRecDepth 100000 in
set_option maxHeartbeats 4000000 in
theorem S_X10_way {a0 : Int32} {a1 : Int32} {h0 : PM} (r : Int32) (h' : PM) (hF : F_X10_way a0 a1 h0 = some (r, h')) : CN yX10_way cX10_way 3 (some .int) 0 0 1 [.int a0, .int a1] h0 (some (.int r)) h' := by
  obtain ⟨X, eX⟩ : ∃ X, X = (r, h') := ⟨_, rfl⟩
  rw [← eX] at hF
  have e1 : r = X.1 := by rw [eX]
  have e2 : h' = X.2 := by rw [eX]
  rw [e1, e2]
  clear eX e1 e2
  unfold F_X10_way at hF
  refine CN_of (by decide) (fun ρ => Nat.le_of_ble_eq_true rfl) rfl ?_
  intro p l e s m args below meth c D cy base ρ hT C V hr hnm
  refine r_iload_n C dX10_way_0 rfl 0 rfl ?_
  refine r_mabs C dX10_way_1 mm_X10_60 mm_sabs mm_i mm_cabs (by decide) (Nat.le_of_ble_eq_true rfl) (by decide) (by decide) ?_
  refine k_lti hF (fun x1 hF => ?_)
  refine r_istore_n C dX10_way_4 rfl (by decide) rfl ?_
  refine r_iload_n C dX10_way_5 rfl 0 rfl ?_
  refine r_bipush (v := 96) C dX10_way_6 (by decide) ?_
  refine r_iload_n C dX10_way_8 rfl 0 rfl ?_
  refine r_isub C dX10_way_9 ?_
  refine r_mmin C dX10_way_10 mm_X10_27 mm_smin mm_i mm_cmin (by decide) (Nat.le_of_ble_eq_true rfl) (by decide) (by decide) ?_
  refine r_iconst (v := 2) C dX10_way_13 (by decide) ?_
  refine r_iload_n C dX10_way_14 rfl 2 rfl ?_
  refine r_mabs C dX10_way_15 mm_X10_60 mm_sabs mm_i mm_cabs (by decide) (Nat.le_of_ble_eq_true rfl) (by decide) (by decide) ?_
  refine r_imul C dX10_way_18 ?_
  refine r_iadd C dX10_way_19 ?_
  exact k_iret C dX10_way_20 hr (by decide) (by decide) hF
def F_X10_measure_L31 (c0 : Nat) (c1 : Nat) (c2 : Int32) (c3 : Int32) (k86 : PM → Option (Unit × PM)) : Nat → Int32 → PM → Option (Unit × PM)
  | 0, _, _ => none
  | fu + 1, v15, h16 => if c2 ≤ v15 then (k86 h16) else (gR h16 c0 11 1 fun x17 => gR h16 c1 9 8 fun x18 => aI h16 x18 c3 fun x19 => gR h16 c1 9 8 fun x20 => aI h16 x20 v15 fun x21 => gR h16 c1 9 9 fun x22 => aI h16 x22 c3 fun x23 => gR h16 c1 9 9 fun x24 => aI h16 x24 v15 fun x25 => cl (F_X10_way (x19 - x21) (x23 - x25) h16) fun r26 h27 => sI h27 x17 ((c3 * 8) + v15) r26 fun h29 => F_X10_measure_L31 c0 c1 c2 c3 k86 fu (v15 + 1) h29)
def F_X10_measure_L2 (c0 : Nat) (c1 : Nat) (c2 : Int32) (k92 : PM → Option (Unit × PM)) : Nat → Int32 → PM → Option (Unit × PM)
  | 0, _, _ => none
  | fu + 1, v2, h3 => if c2 ≤ v2 then (k92 h3) else (gR h3 c0 11 2 fun x4 => gR h3 c1 9 8 fun x5 => aI h3 x5 v2 fun x6 => gR h3 c1 9 9 fun x7 => aI h3 x7 v2 fun x8 => cl (F_X10_way x6 x8 h3) fun r9 h10 => sI h10 x4 v2 r9 fun h12 => jn (fun  (h13 : PM) => F_X10_measure_L2 c0 c1 c2 k92 fu (v2 + 1) h13) fun k86 => F_X10_measure_L31 c0 c1 c2 v2 k86 LF 0 h12)
def F_X10_measure (a0 : Nat) (a1 : Nat) (a2 : Int32) (h0 : PM) : Option (Unit × PM) := jn (fun  (h1 : PM) => some ((), h1)) fun k92 => F_X10_measure_L2 a0 a1 a2 k92 LF 0 h0
set_option maxRecDepth 100000 in
set_option maxHeartbeats 4000000 in
theorem S_X10_measure {a0 : Nat} {a1 : Nat} {a2 : Int32} {h0 : PM} (r : Unit) (h' : PM) (hF : F_X10_measure a0 a1 a2 h0 = some (r, h')) : CN yX10_measure cX10_measure 5 none 0 0 2 [.ref a0, .ref a1, .int a2] h0 none h' := by
  obtain ⟨X, eX⟩ : ∃ X, X = (r, h') := ⟨_, rfl⟩
  rw [← eX] at hF
  have e1 : r = X.1 := by rw [eX]
  have e2 : h' = X.2 := by rw [eX]
  rw [e2]
  clear eX e1 e2
  unfold F_X10_measure at hF
  refine CN_of (by decide) (fun ρ => Nat.le_of_ble_eq_true rfl) rfl ?_
  intro p l e s m args below meth c D cy base ρ hT C V hr hnm
  refine r_iconst (v := 0) C dX10_measure_0 (by decide) ?_
  refine r_istore_n C dX10_measure_1 rfl (by decide) rfl ?_
  obtain ⟨k92, ek92, hF⟩ := jn_some hF
  have Jk92 : ∀  (h1 : PM), k92 h1 = some X → WP p l e (rmN 0 0 2) s m args below meth c D cy base ρ h0 0 0 5 (MQ below (QR D cy base ρ h0 none X.2) args s 0 0 (fun q => base ≤ q)) 92 [] [] h1 := by
    intro h1 hF
    rw [ek92] at hF
    exact k_vret C dX10_measure_92 hr (by decide) (by decide) hF
  have L2 : ∀ (fu : Nat) (v2 : Int32) (h3 : PM), F_X10_measure_L2 a0 a1 a2 k92 fu v2 h3 = some X → WP p l e (rmN 0 0 2) s m args below meth c D cy base ρ h0 0 0 5 (MQ below (QR D cy base ρ h0 none X.2) args s 0 0 (fun q => base ≤ q)) 2 [(0, .ref a0), (1, .ref a1), (2, .int a2), (3, .int v2)] [] h3 := by
    intro fu
    induction fu with
    | zero => intro v2 h3 hF; rw [F_X10_measure_L2.eq_1] at hF; cases hF
    | succ fu ih =>
      intro v2 h3 hF
      rw [F_X10_measure_L2.eq_2] at hF
      refine r_iload_n C dX10_measure_2 rfl 3 rfl ?_
      refine r_iload_n C dX10_measure_3 rfl 2 rfl ?_
      refine r_icmp_ge (tgt := 92) C dX10_measure_4 (by decide) hF (fun hF => ?_) (fun hF => ?_)
      · exact r_sub [] rfl (Jk92  _ hF)
      · refine r_aload_n C dX10_measure_7 rfl 0 rfl ?_
        refine k_gR C dX10_measure_8 fd_X10_18 (by decide) hF (fun x4 hF => ?_)
        refine r_iload_n C dX10_measure_11 rfl 3 rfl ?_
        refine r_aload_n C dX10_measure_12 rfl 1 rfl ?_
        refine k_gRr C dX10_measure_13 fr_X10_51 (by decide) hF (fun x5 hF => ?_)
        refine r_iload_n C dX10_measure_16 rfl 3 rfl ?_
        refine k_aI C dX10_measure_17 hF (fun x6 hF => ?_)
        refine r_aload_n C dX10_measure_18 rfl 1 rfl ?_
        refine k_gRr C dX10_measure_19 fr_X10_54 (by decide) hF (fun x7 hF => ?_)
        refine r_iload_n C dX10_measure_22 rfl 3 rfl ?_
        refine k_aI C dX10_measure_23 hF (fun x8 hF => ?_)
        obtain ⟨r9, h10, hc11, hF⟩ := cl_some hF
        refine r_callS (As := [.int x6, .int x8]) C dX10_measure_24 V hT cal_X10_way ml_X10_57 sm_X10_way (by decide) rfl rfl (Nat.le_of_ble_eq_true rfl) (by decide) (by decide) (S_X10_way _ _ hc11) ?_
        refine k_sI C dX10_measure_27 hF (fun h12 hF => ?_)
        refine r_iconst (v := 0) C dX10_measure_28 (by decide) ?_
        refine r_istore C dX10_measure_29 (by decide) rfl ?_
        obtain ⟨k86_13, ek86_13, hF⟩ := jn_some hF
        have Jk86_13 : ∀  (h14 : PM), k86_13 h14 = some X → WP p l e (rmN 0 0 2) s m args below meth c D cy base ρ h0 0 0 5 (MQ below (QR D cy base ρ h0 none X.2) args s 0 0 (fun q => base ≤ q)) 86 [(0, .ref a0), (1, .ref a1), (2, .int a2), (3, .int v2)] [] h14 := by
          intro h14 hF
          rw [ek86_13] at hF
          refine r_iinc (v := v2 + 1) C dX10_measure_86 3 rfl (congrArg (fun z => v2 + z) (by decide)) (by decide) rfl ?_
          refine r_goto (tgt := 2) C dX10_measure_89 (by decide) ?_
          exact r_sub [1, 2, 3, 0] rfl (ih _ _ hF)
        have L31_32 : ∀ (fu : Nat) (v16 : Int32) (h17 : PM), F_X10_measure_L31 a0 a1 a2 v2 k86_13 fu v16 h17 = some X → WP p l e (rmN 0 0 2) s m args below meth c D cy base ρ h0 0 0 5 (MQ below (QR D cy base ρ h0 none X.2) args s 0 0 (fun q => base ≤ q)) 31 [(0, .ref a0), (1, .ref a1), (2, .int a2), (3, .int v2), (4, .int v16)] [] h17 := by
          intro fu
          induction fu with
          | zero => intro v16 h17 hF; rw [F_X10_measure_L31.eq_1] at hF; cases hF
          | succ fu ih =>
            intro v16 h17 hF
            rw [F_X10_measure_L31.eq_2] at hF
            refine r_iload C dX10_measure_31 4 rfl ?_
            refine r_iload_n C dX10_measure_33 rfl 2 rfl ?_
            refine r_icmp_ge (tgt := 86) C dX10_measure_34 (by decide) hF (fun hF => ?_) (fun hF => ?_)
            · exact r_sub [0, 1, 2, 3] rfl (Jk86_13  _ hF)
            · refine r_aload_n C dX10_measure_37 rfl 0 rfl ?_
              refine k_gR C dX10_measure_38 fd_X10_15 (by decide) hF (fun x18 hF => ?_)
              refine r_iload_n C dX10_measure_41 rfl 3 rfl ?_
              refine r_bipush (v := 8) C dX10_measure_42 (by decide) ?_
              refine r_imul C dX10_measure_44 ?_
              refine r_iload C dX10_measure_45 4 rfl ?_
              refine r_iadd C dX10_measure_47 ?_
              refine r_aload_n C dX10_measure_48 rfl 1 rfl ?_
              refine k_gRr C dX10_measure_49 fr_X10_51 (by decide) hF (fun x19 hF => ?_)
              refine r_iload_n C dX10_measure_52 rfl 3 rfl ?_
              refine k_aI C dX10_measure_53 hF (fun x20 hF => ?_)
              refine r_aload_n C dX10_measure_54 rfl 1 rfl ?_
              refine k_gRr C dX10_measure_55 fr_X10_51 (by decide) hF (fun x21 hF => ?_)
              refine r_iload C dX10_measure_58 4 rfl ?_
              refine k_aI C dX10_measure_60 hF (fun x22 hF => ?_)
              refine r_isub C dX10_measure_61 ?_
              refine r_aload_n C dX10_measure_62 rfl 1 rfl ?_
              refine k_gRr C dX10_measure_63 fr_X10_54 (by decide) hF (fun x23 hF => ?_)
              refine r_iload_n C dX10_measure_66 rfl 3 rfl ?_
              refine k_aI C dX10_measure_67 hF (fun x24 hF => ?_)
              refine r_aload_n C dX10_measure_68 rfl 1 rfl ?_
              refine k_gRr C dX10_measure_69 fr_X10_54 (by decide) hF (fun x25 hF => ?_)
              refine r_iload C dX10_measure_72 4 rfl ?_
              refine k_aI C dX10_measure_74 hF (fun x26 hF => ?_)
              refine r_isub C dX10_measure_75 ?_
              obtain ⟨r27, h28, hc29, hF⟩ := cl_some hF
              refine r_callS (As := [.int (x20 - x22), .int (x24 - x26)]) C dX10_measure_76 V hT cal_X10_way ml_X10_57 sm_X10_way (by decide) rfl rfl (Nat.le_of_ble_eq_true rfl) (by decide) (by decide) (S_X10_way _ _ hc29) ?_
              refine k_sI C dX10_measure_79 hF (fun h30 hF => ?_)
              refine r_iinc (v := v16 + 1) C dX10_measure_80 4 rfl (congrArg (fun z => v16 + z) (by decide)) (by decide) rfl ?_
              refine r_goto (tgt := 31) C dX10_measure_83 (by decide) ?_
              exact r_sub [1, 2, 3, 4, 0] rfl (ih _ _ hF)
        exact r_sub [1, 2, 3, 4, 0] rfl (L31_32 _ _ _ hF)
  exact r_sub [1, 2, 3, 0] rfl (L2 _ _ _ hF)
def F_X10_layPlan_L33 (c0 : Nat) (c1 : Nat) (c2 : Int32) (c4 : Int32) (k78 : PM → Option (Unit × PM)) : Nat → Int32 → PM → Option (Unit × PM)
  | 0, _, _ => none
  | fu + 1, v19, h20 => if c2 ≤ v19 then (k78 h20) else (cl (F_X11_holds (Int32.toInt64 c4) v19 h20) fun r21 h22 => jn (fun  (h24 : PM) => F_X10_layPlan_L33 c0 c1 c2 c4 k78 fu (v19 + 1) h24) fun k72 => if r21 = 0 then (k72 h22) else (gR h22 c0 11 0 fun x26 => tst h22 c0 11 (cl (F_X10_shortest c0 c4 v19 c2 h22) fun r27 h28 => sI h28 x26 ((c4 * 8) + v19) r27 fun h30 => k72 h30)))
def F_X10_layPlan_L25 (c0 : Nat) (c1 : Nat) (c2 : Int32) (k84 : PM → Option (Unit × PM)) : Nat → Int32 → PM → Option (Unit × PM)
  | 0, _, _ => none
  | fu + 1, v15, h16 => if v15 ≤ 0 then (k84 h16) else (jn (fun  (h17 : PM) => F_X10_layPlan_L25 c0 c1 c2 k84 fu (v15 + (-1)) h17) fun k78 => F_X10_layPlan_L33 c0 c1 c2 v15 k78 LF 0 h16)
def F_X10_layPlan (a0 : Nat) (a1 : Nat) (h0 : PM) : Option (Unit × PM) := gI h0 a1 9 7 fun x1 => lt_ (mn x1 8) fun x2 => tst h0 a0 11 (cl (F_X10_measure a0 a1 x2 h0) fun r3 h4 => lt_ (((1 : Int32) <<< (x2 &&& 31)) - 1) fun x6 => jn (fun  (h7 : PM) => tst h7 a0 11 (cl (F_X10_shortest a0 0 (-1) x2 h7) fun r8 h9 => pI h9 a1 9 11 r8 fun h11 => tst h11 a0 11 (cl (F_X10_follow a0 a1 x2 h11) fun r12 h13 => some ((), h13)))) fun k84 => F_X10_layPlan_L25 a0 a1 x2 k84 LF x6 h4)
set_option maxRecDepth 100000 in
set_option maxHeartbeats 4000000 in
theorem S_X10_layPlan {a0 : Nat} {a1 : Nat} {h0 : PM} (r : Unit) (h' : PM) (hF : F_X10_layPlan a0 a1 h0 = some (r, h')) : CN yX10_layPlan cX10_layPlan 6 none 0 0 4 [.ref a0, .ref a1] h0 none h' := by
  obtain ⟨X, eX⟩ : ∃ X, X = (r, h') := ⟨_, rfl⟩
  rw [← eX] at hF
  have e1 : r = X.1 := by rw [eX]
  have e2 : h' = X.2 := by rw [eX]
  rw [e2]
  clear eX e1 e2
  unfold F_X10_layPlan at hF
  refine CN_of (by decide) (fun ρ => Nat.le_of_ble_eq_true rfl) rfl ?_
  intro p l e s m args below meth c D cy base ρ hT C V hr hnm
  refine r_aload_n C dX10_layPlan_0 rfl 1 rfl ?_
  refine k_gI C dX10_layPlan_1 fd_X10_21 (by decide) hF (fun x1 hF => ?_)
  refine r_bipush (v := 8) C dX10_layPlan_4 (by decide) ?_
  refine r_mmin C dX10_layPlan_6 mm_X10_27 mm_smin mm_i mm_cmin (by decide) (Nat.le_of_ble_eq_true rfl) (by decide) (by decide) ?_
  refine k_lti hF (fun x2 hF => ?_)
  refine r_istore_n C dX10_layPlan_9 rfl (by decide) rfl ?_
  refine r_aload_n C dX10_layPlan_10 rfl 1 rfl ?_
  refine r_aload_n C dX10_layPlan_11 rfl 2 rfl ?_
  refine r_iload_n C dX10_layPlan_12 rfl 0 rfl ?_
  obtain ⟨ht, hF⟩ := tst_some hF
  obtain ⟨r3, h4, hc5, hF⟩ := cl_some hF
  refine r_callV (As := [.ref a1, .int x2]) C dX10_layPlan_13 V hT cal_X10_measure cls_11 ml_X10_33 im_X10_measure se_X10_measure ht (by decide) rfl rfl (Nat.le_of_ble_eq_true rfl) (by decide) (by decide) (S_X10_measure _ _ hc5) ?_
  refine r_iconst (v := 1) C dX10_layPlan_16 (by decide) ?_
  refine r_iload_n C dX10_layPlan_17 rfl 0 rfl ?_
  refine r_ishl C dX10_layPlan_18 ?_
  refine r_iconst (v := 1) C dX10_layPlan_19 (by decide) ?_
  refine r_isub C dX10_layPlan_20 ?_
  refine k_lti hF (fun x6 hF => ?_)
  refine r_istore_n C dX10_layPlan_21 rfl (by decide) rfl ?_
  refine r_iload_n C dX10_layPlan_22 rfl 0 rfl ?_
  refine r_istore C dX10_layPlan_23 (by decide) rfl ?_
  obtain ⟨k84, ek84, hF⟩ := jn_some hF
  have Jk84 : ∀  (h7 : PM), k84 h7 = some X → WP p l e (rmN 0 0 4) s m args below meth c D cy base ρ h0 0 0 6 (MQ below (QR D cy base ρ h0 none X.2) args s 0 0 (fun q => base ≤ q)) 84 [(0, .ref a0), (1, .ref a1), (2, .int x2)] [] h7 := by
    intro h7 hF
    rw [ek84] at hF
    refine r_aload_n C dX10_layPlan_84 rfl 1 rfl ?_
    refine r_aload_n C dX10_layPlan_85 rfl 0 rfl ?_
    refine r_iconst (v := 0) C dX10_layPlan_86 (by decide) ?_
    refine r_iconst (v := (-1)) C dX10_layPlan_87 (by decide) ?_
    refine r_iload_n C dX10_layPlan_88 rfl 2 rfl ?_
    obtain ⟨ht, hF⟩ := tst_some hF
    obtain ⟨r8, h9, hc10, hF⟩ := cl_some hF
    refine r_callV (As := [.int 0, .int (-1), .int x2]) C dX10_layPlan_89 V hT cal_X10_shortest cls_11 ml_X10_41 im_X10_shortest se_X10_shortest ht (by decide) rfl rfl (Nat.le_of_ble_eq_true rfl) (by decide) (by decide) (S_X10_shortest _ _ hc10) ?_
    refine k_pI C dX10_layPlan_92 fd_X10_45 (fun z => by cases z) (by decide) hF (fun h11 hF => ?_)
    refine r_aload_n C dX10_layPlan_95 rfl 0 rfl ?_
    refine r_aload_n C dX10_layPlan_96 rfl 1 rfl ?_
    refine r_iload_n C dX10_layPlan_97 rfl 2 rfl ?_
    obtain ⟨ht, hF⟩ := tst_some hF
    obtain ⟨r12, h13, hc14, hF⟩ := cl_some hF
    refine r_callV (As := [.ref a1, .int x2]) C dX10_layPlan_98 V hT cal_X10_follow cls_11 ml_X10_48 im_X10_follow se_X10_follow ht (by decide) rfl rfl (Nat.le_of_ble_eq_true rfl) (by decide) (by decide) (S_X10_follow _ _ hc14) ?_
    exact k_vret C dX10_layPlan_101 hr (by decide) (by decide) hF
  have L25 : ∀ (fu : Nat) (v15 : Int32) (h16 : PM), F_X10_layPlan_L25 a0 a1 x2 k84 fu v15 h16 = some X → WP p l e (rmN 0 0 4) s m args below meth c D cy base ρ h0 0 0 6 (MQ below (QR D cy base ρ h0 none X.2) args s 0 0 (fun q => base ≤ q)) 25 [(0, .ref a0), (1, .ref a1), (2, .int x2), (4, .int v15)] [] h16 := by
    intro fu
    induction fu with
    | zero => intro v15 h16 hF; rw [F_X10_layPlan_L25.eq_1] at hF; cases hF
    | succ fu ih =>
      intro v15 h16 hF
      rw [F_X10_layPlan_L25.eq_2] at hF
      refine r_iload C dX10_layPlan_25 3 rfl ?_
      refine r_if_le (tgt := 84) C dX10_layPlan_27 (by decide) hF (fun hF => ?_) (fun hF => ?_)
      · exact r_sub [0, 1, 2] rfl (Jk84  _ hF)
      · refine r_iconst (v := 0) C dX10_layPlan_30 (by decide) ?_
        refine r_istore C dX10_layPlan_31 (by decide) rfl ?_
        obtain ⟨k78_17, ek78_17, hF⟩ := jn_some hF
        have Jk78_17 : ∀  (h18 : PM), k78_17 h18 = some X → WP p l e (rmN 0 0 4) s m args below meth c D cy base ρ h0 0 0 6 (MQ below (QR D cy base ρ h0 none X.2) args s 0 0 (fun q => base ≤ q)) 78 [(0, .ref a0), (1, .ref a1), (2, .int x2), (4, .int v15)] [] h18 := by
          intro h18 hF
          rw [ek78_17] at hF
          refine r_iinc (v := v15 + (-1)) C dX10_layPlan_78 3 rfl (congrArg (fun z => v15 + z) (by decide)) (by decide) rfl ?_
          refine r_goto (tgt := 25) C dX10_layPlan_81 (by decide) ?_
          exact r_sub [1, 2, 3, 0] rfl (ih _ _ hF)
        have L33_33 : ∀ (fu : Nat) (v20 : Int32) (h21 : PM), F_X10_layPlan_L33 a0 a1 x2 v15 k78_17 fu v20 h21 = some X → WP p l e (rmN 0 0 4) s m args below meth c D cy base ρ h0 0 0 6 (MQ below (QR D cy base ρ h0 none X.2) args s 0 0 (fun q => base ≤ q)) 33 [(0, .ref a0), (1, .ref a1), (2, .int x2), (4, .int v15), (5, .int v20)] [] h21 := by
          intro fu
          induction fu with
          | zero => intro v20 h21 hF; rw [F_X10_layPlan_L33.eq_1] at hF; cases hF
          | succ fu ih =>
            intro v20 h21 hF
            rw [F_X10_layPlan_L33.eq_2] at hF
            refine r_iload C dX10_layPlan_33 4 rfl ?_
            refine r_iload_n C dX10_layPlan_35 rfl 2 rfl ?_
            refine r_icmp_ge (tgt := 78) C dX10_layPlan_36 (by decide) hF (fun hF => ?_) (fun hF => ?_)
            · exact r_sub [0, 1, 2, 3] rfl (Jk78_17  _ hF)
            · refine r_iload C dX10_layPlan_39 3 rfl ?_
              refine r_i2l C dX10_layPlan_41 ?_
              refine r_iload C dX10_layPlan_42 4 rfl ?_
              obtain ⟨r22, h23, hc24, hF⟩ := cl_some hF
              refine r_callSN (As := [.long (Int32.toInt64 v15), .int v20]) C dX10_layPlan_44 V hT cal_X11_holds mn_X10_37 sm_X11_holds (by decide) rfl rfl (Nat.le_of_ble_eq_true rfl) (by decide) (by decide) (S_X11_holds _ _ hc24) ?_
              obtain ⟨k72_25, ek72_25, hF⟩ := jn_some hF
              have Jk72_25 : ∀  (h26 : PM), k72_25 h26 = some X → WP p l e (rmN 0 0 4) s m args below meth c D cy base ρ h0 0 0 6 (MQ below (QR D cy base ρ h0 none X.2) args s 0 0 (fun q => base ≤ q)) 72 [(0, .ref a0), (1, .ref a1), (2, .int x2), (4, .int v15), (5, .int v20)] [] h26 := by
                intro h26 hF
                rw [ek72_25] at hF
                refine r_iinc (v := v20 + 1) C dX10_layPlan_72 4 rfl (congrArg (fun z => v20 + z) (by decide)) (by decide) rfl ?_
                refine r_goto (tgt := 33) C dX10_layPlan_75 (by decide) ?_
                exact r_sub [1, 2, 3, 4, 0] rfl (ih _ _ hF)
              refine r_if_eq (tgt := 72) C dX10_layPlan_47 (by decide) hF (fun hF => ?_) (fun hF => ?_)
              · exact Jk72_25  _ hF
              · refine r_aload_n C dX10_layPlan_50 rfl 0 rfl ?_
                refine k_gR C dX10_layPlan_51 fd_X10_11 (by decide) hF (fun x28 hF => ?_)
                refine r_iload C dX10_layPlan_54 3 rfl ?_
                refine r_bipush (v := 8) C dX10_layPlan_56 (by decide) ?_
                refine r_imul C dX10_layPlan_58 ?_
                refine r_iload C dX10_layPlan_59 4 rfl ?_
                refine r_iadd C dX10_layPlan_61 ?_
                refine r_aload_n C dX10_layPlan_62 rfl 0 rfl ?_
                refine r_iload C dX10_layPlan_63 3 rfl ?_
                refine r_iload C dX10_layPlan_65 4 rfl ?_
                refine r_iload_n C dX10_layPlan_67 rfl 2 rfl ?_
                obtain ⟨ht, hF⟩ := tst_some hF
                obtain ⟨r29, h30, hc31, hF⟩ := cl_some hF
                refine r_callV (As := [.int v15, .int v20, .int x2]) C dX10_layPlan_68 V hT cal_X10_shortest cls_11 ml_X10_41 im_X10_shortest se_X10_shortest ht (by decide) rfl rfl (Nat.le_of_ble_eq_true rfl) (by decide) (by decide) (S_X10_shortest _ _ hc31) ?_
                refine k_sI C dX10_layPlan_71 hF (fun h32 hF => ?_)
                exact Jk72_25  _ hF
        exact r_sub [1, 2, 3, 4, 0] rfl (L33_33 _ _ _ hF)
  exact r_sub [3, 4, 2, 0] rfl (L25 _ _ _ hF)
