theorem ml_X6_3 : Cond.methodLink RX6 3 objectInit ∈ gw := gwm 390 (by decide +kernel) rfl
theorem fd_X6_9 : FD RX6 9 7 0 true := ⟨_, _, _, cls_7, by decide, gwm 393 (by decide +kernel) rfl, rfl, fun _ => by first | rfl | contradiction⟩
theorem fd_X6_15 : FD RX6 15 7 1 false := ⟨_, _, _, cls_7, by decide, gwm 396 (by decide +kernel) rfl, rfl, fun _ => by first | rfl | contradiction⟩
theorem fd_X6_19 : FD RX6 19 7 2 false := ⟨_, _, _, cls_7, by decide, gwm 398 (by decide +kernel) rfl, rfl, fun _ => by first | rfl | contradiction⟩
theorem fd_X6_23 : FD RX6 23 7 3 false := ⟨_, _, _, cls_7, by decide, gwm 400 (by decide +kernel) rfl, rfl, fun _ => by first | rfl | contradiction⟩
theorem fd_X6_26 : FD RX6 26 7 4 false := ⟨_, _, _, cls_7, by decide, gwm 402 (by decide +kernel) rfl, rfl, fun _ => by first | rfl | contradiction⟩
theorem fd_X6_29 : FD RX6 29 7 5 false := ⟨_, _, _, cls_7, by decide, gwm 405 (by decide +kernel) rfl, rfl, fun _ => by first | rfl | contradiction⟩
theorem cn_X6_32 : Cond.classLink RX6 32 RX1 ∈ gw := gwm 391 (by decide +kernel) rfl
theorem mn_X6_34 : Cond.methodLinkNest RX6 34 yX1_init "RoughStones" ∈ nw := nwm 392 (by decide +kernel) rfl
theorem fd_X6_35 : FD RX6 35 7 6 true := ⟨_, _, _, cls_7, by decide, gwm 407 (by decide +kernel) rfl, rfl, fun _ => by first | rfl | contradiction⟩
theorem fd_X6_39 : FD RX6 39 7 7 true := ⟨_, _, _, cls_7, by decide, gwm 409 (by decide +kernel) rfl, rfl, fun _ => by first | rfl | contradiction⟩
theorem fr_X6_42 : FDr RX6 42 5 3 := ⟨_, _, _, cls_5, by decide, gwm 253 (by decide +kernel) rfl⟩
theorem fd_X6_47 : FD RX6 47 2 0 false := ⟨_, _, _, cls_2, by decide, gwm 202 (by decide +kernel) rfl, rfl, fun _ => by first | rfl | contradiction⟩
theorem ml_X6_48 : Cond.methodLink RX6 48 yX1_take ∈ gw := gwm 933 (by decide +kernel) rfl
theorem cal_X1_take : Cal yX1_take cX1_take 2 none 1 := ⟨gwm 924 (by decide +kernel) rfl, gwm 71 (by decide +kernel) rfl, ⟨by decide, by decide, by decide +kernel⟩, by decide⟩
theorem im_X1_take : Cond.instanceMethod yX1_take ∈ gw := gwm 922 (by decide +kernel) rfl
theorem se_X1_take : Cond.selects RX1 yX1_take yX1_take ∈ gw := gwm 923 (by decide +kernel) rfl
theorem fr_X6_52 : FDr RX6 52 5 0 := ⟨_, _, _, cls_5, by decide, gwm 245 (by decide +kernel) rfl⟩
theorem fr_X6_53 : FDr RX6 53 5 2 := ⟨_, _, _, cls_5, by decide, gwm 250 (by decide +kernel) rfl⟩
theorem ml_X7_5 : Cond.methodLink RX7 5 objectInit ∈ gw := gwm 192 (by decide +kernel) rfl
theorem cn_X7_11 : Cond.classLink RX7 11 RX4 ∈ gw := gwm 193 (by decide +kernel) rfl
theorem fd_X7_13 : FD RX7 13 8 0 true := ⟨_, _, _, cls_8, by decide, gwm 265 (by decide +kernel) rfl, rfl, fun _ => by first | rfl | contradiction⟩
theorem cn_X7_17 : Cond.classLink RX7 17 RX1 ∈ gw := gwm 195 (by decide +kernel) rfl
theorem mn_X7_19 : Cond.methodLinkNest RX7 19 yX1_init "RoughStones" ∈ nw := nwm 197 (by decide +kernel) rfl
theorem fd_X7_20 : FD RX7 20 8 1 true := ⟨_, _, _, cls_8, by decide, gwm 266 (by decide +kernel) rfl, rfl, fun _ => by first | rfl | contradiction⟩
theorem fd_X7_24 : FD RX7 24 8 2 true := ⟨_, _, _, cls_8, by decide, gwm 267 (by decide +kernel) rfl, rfl, fun _ => by first | rfl | contradiction⟩
theorem fd_X7_28 : FD RX7 28 8 3 true := ⟨_, _, _, cls_8, by decide, gwm 268 (by decide +kernel) rfl, rfl, fun _ => by first | rfl | contradiction⟩
theorem in_X4 : Cond.instantiable RX4 4 ∈ gw := gwm 237 (by decide +kernel) rfl
theorem ii_X4 : Cond.initialized RX4 ∈ gw := gwm 72 (by decide +kernel) rfl
theorem ml_X7_32 : Cond.methodLink RX7 32 yX4_init ∈ gw := gwm 238 (by decide +kernel) rfl
theorem cal_X4_init : Cal yX4_init cX4_init 4 none 3 := ⟨gwm 240 (by decide +kernel) rfl, gwm 72 (by decide +kernel) rfl, ⟨by decide, by decide, by decide +kernel⟩, by decide⟩
theorem im_X4_init : Cond.instanceMethod yX4_init ∈ gw := gwm 239 (by decide +kernel) rfl
theorem ml_X7_144 : Cond.methodLink RX7 144 yX6_takeWhole ∈ gw := gwm 929 (by decide +kernel) rfl
theorem cal_X6_takeWhole : Cal yX6_takeWhole cX6_takeWhole 2 none 1 := ⟨gwm 932 (by decide +kernel) rfl, gwm 77 (by decide +kernel) rfl, ⟨by decide, by decide, by decide +kernel⟩, by decide⟩
theorem im_X6_takeWhole : Cond.instanceMethod yX6_takeWhole ∈ gw := gwm 930 (by decide +kernel) rfl
theorem se_X6_takeWhole : Cond.selects RX6 yX6_takeWhole yX6_takeWhole ∈ gw := gwm 931 (by decide +kernel) rfl
theorem fr_X7_35 : FDr RX7 35 5 3 := ⟨_, _, _, cls_5, by decide, gwm 254 (by decide +kernel) rfl⟩
theorem fd_X7_38 : FD RX7 38 2 0 false := ⟨_, _, _, cls_2, by decide, gwm 203 (by decide +kernel) rfl, rfl, fun _ => by first | rfl | contradiction⟩
theorem fd_X7_148 : FD RX7 148 7 4 false := ⟨_, _, _, cls_7, by decide, gwm 403 (by decide +kernel) rfl, rfl, fun _ => by first | rfl | contradiction⟩
theorem ml_X7_149 : Cond.methodLink RX7 149 yX6_takeSawn ∈ gw := gwm 934 (by decide +kernel) rfl
theorem cal_X6_takeSawn : Cal yX6_takeSawn cX6_takeSawn 3 none 2 := ⟨gwm 937 (by decide +kernel) rfl, gwm 77 (by decide +kernel) rfl, ⟨by decide, by decide, by decide +kernel⟩, by decide⟩
theorem im_X6_takeSawn : Cond.instanceMethod yX6_takeSawn ∈ gw := gwm 935 (by decide +kernel) rfl
theorem se_X6_takeSawn : Cond.selects RX6 yX6_takeSawn yX6_takeSawn ∈ gw := gwm 936 (by decide +kernel) rfl
theorem fr_X7_125 : FDr RX7 125 5 2 := ⟨_, _, _, cls_5, by decide, gwm 251 (by decide +kernel) rfl⟩
theorem fr_X7_128 : FDr RX7 128 5 0 := ⟨_, _, _, cls_5, by decide, gwm 246 (by decide +kernel) rfl⟩
theorem fr_X7_131 : FDr RX7 131 5 1 := ⟨_, _, _, cls_5, by decide, gwm 248 (by decide +kernel) rfl⟩
theorem cl_X7_134 : Cond.constantLong RX7 134 (68719476735) ∈ gw := gwm 919 (by decide +kernel) rfl
theorem mn_X7_140 : Cond.methodLinkNest RX7 140 yX11_lowestBit "RoughStones" ∈ nw := nwm 920 (by decide +kernel) rfl
theorem ml_X7_136 : Cond.methodLink RX7 136 yX3_block ∈ gw := gwm 873 (by decide +kernel) rfl
theorem fd_X7_86 : FD RX7 86 2 3 false := ⟨_, _, _, cls_2, by decide, gwm 210 (by decide +kernel) rfl, rfl, fun _ => by first | rfl | contradiction⟩
theorem fd_X7_60 : FD RX7 60 2 2 false := ⟨_, _, _, cls_2, by decide, gwm 208 (by decide +kernel) rfl, rfl, fun _ => by first | rfl | contradiction⟩
theorem fr_X7_106 : FDr RX7 106 4 0 := ⟨_, _, _, cls_4, by decide, gwm 794 (by decide +kernel) rfl⟩
theorem gn_X7_109 : Cond.fieldLinkNest RX7 109 "RoughStones" "TURNED" "[I" "RoughStones" ∈ nw := nwm 872 (by decide +kernel) rfl
theorem fd_X7_112 : FD RX7 112 2 4 false := ⟨_, _, _, cls_2, by decide, gwm 212 (by decide +kernel) rfl, rfl, fun _ => by first | rfl | contradiction⟩
theorem fd_X7_115 : FD RX7 115 2 5 false := ⟨_, _, _, cls_2, by decide, gwm 214 (by decide +kernel) rfl, rfl, fun _ => by first | rfl | contradiction⟩
theorem fd_X7_118 : FD RX7 118 2 6 false := ⟨_, _, _, cls_2, by decide, gwm 216 (by decide +kernel) rfl, rfl, fun _ => by first | rfl | contradiction⟩
theorem ml_X7_121 : Cond.methodLink RX7 121 yX1_take ∈ gw := gwm 921 (by decide +kernel) rfl
theorem ml_X7_102 : Cond.methodLink RX7 102 yX7_firstWithin ∈ gw := gwm 915 (by decide +kernel) rfl
theorem cal_X7_firstWithin : Cal yX7_firstWithin cX7_firstWithin 9 (some .int) 1 := ⟨gwm 918 (by decide +kernel) rfl, gwm 70 (by decide +kernel) rfl, ⟨by decide, by decide, by decide +kernel⟩, by decide⟩
theorem im_X7_firstWithin : Cond.instanceMethod yX7_firstWithin ∈ gw := gwm 917 (by decide +kernel) rfl
theorem se_X7_firstWithin : Cond.selects RX7 yX7_firstWithin yX7_firstWithin ∈ gw := gwm 26 (by decide +kernel) rfl
theorem ml_X7_170 : Cond.methodLink RX7 170 yJ13_bitCount_95d88 ∈ gw := gwm 882 (by decide +kernel) rfl
theorem ml_X7_166 : Cond.methodLink RX7 166 yX7_startsOnSound ∈ gw := gwm 879 (by decide +kernel) rfl
theorem cal_X7_startsOnSound : Cal yX7_startsOnSound cX7_startsOnSound 11 (some .long) 3 := ⟨gwm 881 (by decide +kernel) rfl, gwm 70 (by decide +kernel) rfl, ⟨by decide, by decide, by decide +kernel⟩, by decide⟩
theorem sm_X7_startsOnSound : Cond.static yX7_startsOnSound ∈ gw := gwm 880 (by decide +kernel) rfl
theorem fr_X7_154 : FDr RX7 154 4 2 := ⟨_, _, _, cls_4, by decide, gwm 798 (by decide +kernel) rfl⟩
theorem ml_X7_158 : Cond.methodLink RX7 158 yX3_maskOf ∈ gw := gwm 874 (by decide +kernel) rfl
theorem ml_X7_162 : Cond.methodLink RX7 162 yX7_startsInRow ∈ gw := gwm 875 (by decide +kernel) rfl
theorem cal_X7_startsInRow : Cal yX7_startsInRow cX7_startsInRow 9 (some .long) 4 := ⟨gwm 878 (by decide +kernel) rfl, gwm 70 (by decide +kernel) rfl, ⟨by decide, by decide, by decide +kernel⟩, by decide⟩
theorem im_X7_startsInRow : Cond.instanceMethod yX7_startsInRow ∈ gw := gwm 877 (by decide +kernel) rfl
theorem se_X7_startsInRow : Cond.selects RX7 yX7_startsInRow yX7_startsInRow ∈ gw := gwm 21 (by decide +kernel) rfl
theorem fr_X7_153 : FDr RX7 153 4 1 := ⟨_, _, _, cls_4, by decide, gwm 796 (by decide +kernel) rfl⟩
theorem ml_X7_82 : Cond.methodLink RX7 82 yX7_isWanted ∈ gw := gwm 906 (by decide +kernel) rfl
theorem cal_X7_isWanted : Cal yX7_isWanted cX7_isWanted 2 (some .boolean) 0 := ⟨gwm 909 (by decide +kernel) rfl, gwm 70 (by decide +kernel) rfl, ⟨by decide, by decide, by decide +kernel⟩, by decide⟩
theorem im_X7_isWanted : Cond.instanceMethod yX7_isWanted ∈ gw := gwm 908 (by decide +kernel) rfl
theorem se_X7_isWanted : Cond.selects RX7 yX7_isWanted yX7_isWanted ∈ gw := gwm 24 (by decide +kernel) rfl
theorem fr_X7_89 : FDr RX7 89 7 0 := ⟨_, _, _, cls_7, by decide, gwm 394 (by decide +kernel) rfl⟩
theorem ml_X7_94 : Cond.methodLink RX7 94 yX7_search ∈ gw := gwm 910 (by decide +kernel) rfl
theorem cal_X7_search : Cal yX7_search cX7_search 10 (some .boolean) 4 := ⟨gwm 871 (by decide +kernel) rfl, gwm 70 (by decide +kernel) rfl, ⟨by decide, by decide, by decide +kernel⟩, by decide⟩
theorem im_X7_search : Cond.instanceMethod yX7_search ∈ gw := gwm 869 (by decide +kernel) rfl
theorem se_X7_search : Cond.selects RX7 yX7_search yX7_search ∈ gw := gwm 870 (by decide +kernel) rfl
theorem ml_X7_98 : Cond.methodLink RX7 98 yX7_offerTo ∈ gw := gwm 911 (by decide +kernel) rfl
theorem cal_X7_offerTo : Cal yX7_offerTo cX7_offerTo 5 none 2 := ⟨gwm 914 (by decide +kernel) rfl, gwm 70 (by decide +kernel) rfl, ⟨by decide, by decide, by decide +kernel⟩, by decide⟩
theorem im_X7_offerTo : Cond.instanceMethod yX7_offerTo ∈ gw := gwm 913 (by decide +kernel) rfl
theorem se_X7_offerTo : Cond.selects RX7 yX7_offerTo yX7_offerTo ∈ gw := gwm 25 (by decide +kernel) rfl
theorem ml_X7_78 : Cond.methodLink RX7 78 yX7_choose ∈ gw := gwm 925 (by decide +kernel) rfl
theorem cal_X7_choose : Cal yX7_choose cX7_choose 5 none 1 := ⟨gwm 928 (by decide +kernel) rfl, gwm 70 (by decide +kernel) rfl, ⟨by decide, by decide, by decide +kernel⟩, by decide⟩
theorem im_X7_choose : Cond.instanceMethod yX7_choose ∈ gw := gwm 927 (by decide +kernel) rfl
theorem se_X7_choose : Cond.selects RX7 yX7_choose yX7_choose ∈ gw := gwm 27 (by decide +kernel) rfl
theorem ml_X7_42 : Cond.methodLink RX7 42 yJx4a65c_size_8abf5 ∈ gw := gwm 898 (by decide +kernel) rfl
theorem ml_X7_48 : Cond.methodLink RX7 48 yJx4a65c_get_915e3 ∈ gw := gwm 899 (by decide +kernel) rfl
theorem cn_X7_52 : Cond.classLink RX7 52 RX3 ∈ gw := gwm 900 (by decide +kernel) rfl
theorem fd_X7_54 : FD RX7 54 2 1 false := ⟨_, _, _, cls_2, by decide, gwm 206 (by decide +kernel) rfl, rfl, fun _ => by first | rfl | contradiction⟩
theorem fr_X7_57 : FDr RX7 57 4 4 := ⟨_, _, _, cls_4, by decide, gwm 802 (by decide +kernel) rfl⟩
theorem fr_X7_62 : FDr RX7 62 4 3 := ⟨_, _, _, cls_4, by decide, gwm 800 (by decide +kernel) rfl⟩
theorem fd_X7_65 : FD RX7 65 2 7 false := ⟨_, _, _, cls_2, by decide, gwm 219 (by decide +kernel) rfl, rfl, fun _ => by first | rfl | contradiction⟩
theorem ml_X7_68 : Cond.methodLink RX7 68 yX5_worthOf ∈ gw := gwm 901 (by decide +kernel) rfl
theorem cal_X5_worthOf : Cal yX5_worthOf cX5_worthOf 5 (some .int) 1 := ⟨gwm 842 (by decide +kernel) rfl, gwm 69 (by decide +kernel) rfl, ⟨by decide, by decide, by decide +kernel⟩, by decide⟩
theorem im_X5_worthOf : Cond.instanceMethod yX5_worthOf ∈ gw := gwm 840 (by decide +kernel) rfl
theorem se_X5_worthOf : Cond.selects RX5 yX5_worthOf yX5_worthOf ∈ gw := gwm 841 (by decide +kernel) rfl
theorem ml_X7_74 : Cond.methodLink RX7 74 yX7_offerWays ∈ gw := gwm 902 (by decide +kernel) rfl
theorem cal_X7_offerWays : Cal yX7_offerWays cX7_offerWays 5 none 2 := ⟨gwm 905 (by decide +kernel) rfl, gwm 70 (by decide +kernel) rfl, ⟨by decide, by decide, by decide +kernel⟩, by decide⟩
theorem im_X7_offerWays : Cond.instanceMethod yX7_offerWays ∈ gw := gwm 904 (by decide +kernel) rfl
theorem se_X7_offerWays : Cond.selects RX7 yX7_offerWays yX7_offerWays ∈ gw := gwm 23 (by decide +kernel) rfl
theorem ml_X8_3 : Cond.methodLink RX8 3 objectInit ∈ gw := gwm 969 (by decide +kernel) rfl
theorem fd_X8_9 : FD RX8 9 9 3 false := ⟨_, _, _, cls_9, by decide, gwm 975 (by decide +kernel) rfl, rfl, fun _ => by first | rfl | contradiction⟩
theorem fd_X8_15 : FD RX8 15 9 4 false := ⟨_, _, _, cls_9, by decide, gwm 978 (by decide +kernel) rfl, rfl, fun _ => by first | rfl | contradiction⟩
theorem fd_X8_19 : FD RX8 19 9 5 false := ⟨_, _, _, cls_9, by decide, gwm 981 (by decide +kernel) rfl, rfl, fun _ => by first | rfl | contradiction⟩
theorem fd_X8_22 : FD RX8 22 9 6 false := ⟨_, _, _, cls_9, by decide, gwm 983 (by decide +kernel) rfl, rfl, fun _ => by first | rfl | contradiction⟩
theorem fd_X8_25 : FD RX8 25 9 7 false := ⟨_, _, _, cls_9, by decide, gwm 986 (by decide +kernel) rfl, rfl, fun _ => by first | rfl | contradiction⟩
theorem fd_X8_28 : FD RX8 28 9 8 true := ⟨_, _, _, cls_9, by decide, gwm 989 (by decide +kernel) rfl, rfl, fun _ => by first | rfl | contradiction⟩
theorem fd_X8_32 : FD RX8 32 9 9 true := ⟨_, _, _, cls_9, by decide, gwm 992 (by decide +kernel) rfl, rfl, fun _ => by first | rfl | contradiction⟩
theorem fd_X8_35 : FD RX8 35 9 10 false := ⟨_, _, _, cls_9, by decide, gwm 995 (by decide +kernel) rfl, rfl, fun _ => by first | rfl | contradiction⟩
theorem fd_X8_38 : FD RX8 38 9 11 false := ⟨_, _, _, cls_9, by decide, gwm 997 (by decide +kernel) rfl, rfl, fun _ => by first | rfl | contradiction⟩
theorem fd_X8_41 : FD RX8 41 9 12 true := ⟨_, _, _, cls_9, by decide, gwm 1000 (by decide +kernel) rfl, rfl, fun _ => by first | rfl | contradiction⟩
theorem fd_X8_44 : FD RX8 44 9 0 true := ⟨_, _, _, cls_9, by decide, gwm 970 (by decide +kernel) rfl, rfl, fun _ => by first | rfl | contradiction⟩
theorem fd_X8_47 : FD RX8 47 2 1 false := ⟨_, _, _, cls_2, by decide, gwm 205 (by decide +kernel) rfl, rfl, fun _ => by first | rfl | contradiction⟩
theorem fd_X8_52 : FD RX8 52 9 1 true := ⟨_, _, _, cls_9, by decide, gwm 971 (by decide +kernel) rfl, rfl, fun _ => by first | rfl | contradiction⟩
theorem fd_X8_53 : FD RX8 53 2 7 false := ⟨_, _, _, cls_2, by decide, gwm 218 (by decide +kernel) rfl, rfl, fun _ => by first | rfl | contradiction⟩
theorem fd_X8_56 : FD RX8 56 9 2 false := ⟨_, _, _, cls_9, by decide, gwm 972 (by decide +kernel) rfl, rfl, fun _ => by first | rfl | contradiction⟩
theorem dX6_init_0 : decode cX6_init 0 = .ok (.aload_n 0, 1) := by decide +kernel
theorem dX6_init_1 : decode cX6_init 1 = .ok (.invokespecial 3, 3) := by decide +kernel
theorem dX6_init_4 : decode cX6_init 4 = .ok (.aload_n 0, 1) := by decide +kernel
theorem dX6_init_5 : decode cX6_init 5 = .ok (.bipush 6, 2) := by decide +kernel
theorem dX6_init_7 : decode cX6_init 7 = .ok (.newarray .long, 2) := by decide +kernel
theorem dX6_init_9 : decode cX6_init 9 = .ok (.putfield 9, 3) := by decide +kernel
theorem dX6_init_12 : decode cX6_init 12 = .ok (.aload_n 0, 1) := by decide +kernel
theorem dX6_init_13 : decode cX6_init 13 = .ok (.iconst 0, 1) := by decide +kernel
theorem dX6_init_14 : decode cX6_init 14 = .ok (.putfield 15, 3) := by decide +kernel
theorem dX6_init_17 : decode cX6_init 17 = .ok (.aload_n 0, 1) := by decide +kernel
theorem dX6_init_18 : decode cX6_init 18 = .ok (.iconst (-1), 1) := by decide +kernel
theorem dX6_init_19 : decode cX6_init 19 = .ok (.putfield 19, 3) := by decide +kernel
theorem dX6_init_22 : decode cX6_init 22 = .ok (.aload_n 0, 1) := by decide +kernel
theorem dX6_init_23 : decode cX6_init 23 = .ok (.iconst (-1), 1) := by decide +kernel
theorem dX6_init_24 : decode cX6_init 24 = .ok (.putfield 23, 3) := by decide +kernel
theorem dX6_init_27 : decode cX6_init 27 = .ok (.aload_n 0, 1) := by decide +kernel
theorem dX6_init_28 : decode cX6_init 28 = .ok (.iconst 0, 1) := by decide +kernel
theorem dX6_init_29 : decode cX6_init 29 = .ok (.putfield 26, 3) := by decide +kernel
theorem dX6_init_32 : decode cX6_init 32 = .ok (.aload_n 0, 1) := by decide +kernel
theorem dX6_init_33 : decode cX6_init 33 = .ok (.iconst 0, 1) := by decide +kernel
theorem dX6_init_34 : decode cX6_init 34 = .ok (.putfield 29, 3) := by decide +kernel
theorem dX6_init_37 : decode cX6_init 37 = .ok (.aload_n 0, 1) := by decide +kernel
theorem dX6_init_38 : decode cX6_init 38 = .ok (.new 32, 3) := by decide +kernel
theorem dX6_init_41 : decode cX6_init 41 = .ok (.dup, 1) := by decide +kernel
theorem dX6_init_42 : decode cX6_init 42 = .ok (.invokespecial 34, 3) := by decide +kernel
theorem dX6_init_45 : decode cX6_init 45 = .ok (.putfield 35, 3) := by decide +kernel
theorem dX6_init_48 : decode cX6_init 48 = .ok (.aload_n 0, 1) := by decide +kernel
theorem dX6_init_49 : decode cX6_init 49 = .ok (.new 32, 3) := by decide +kernel
theorem dX6_init_52 : decode cX6_init 52 = .ok (.dup, 1) := by decide +kernel
theorem dX6_init_53 : decode cX6_init 53 = .ok (.invokespecial 34, 3) := by decide +kernel
theorem dX6_init_56 : decode cX6_init 56 = .ok (.putfield 39, 3) := by decide +kernel
theorem dX6_init_59 : decode cX6_init 59 = .ok (.return_, 1) := by decide +kernel
theorem dX6_takeWhole_0 : decode cX6_takeWhole 0 = .ok (.aload_n 0, 1) := by decide +kernel
theorem dX6_takeWhole_1 : decode cX6_takeWhole 1 = .ok (.iconst (-1), 1) := by decide +kernel
theorem dX6_takeWhole_2 : decode cX6_takeWhole 2 = .ok (.putfield 19, 3) := by decide +kernel
theorem dX6_takeWhole_5 : decode cX6_takeWhole 5 = .ok (.aload_n 0, 1) := by decide +kernel
theorem dX6_takeWhole_6 : decode cX6_takeWhole 6 = .ok (.iconst (-1), 1) := by decide +kernel
theorem dX6_takeWhole_7 : decode cX6_takeWhole 7 = .ok (.putfield 23, 3) := by decide +kernel
theorem dX6_takeWhole_10 : decode cX6_takeWhole 10 = .ok (.aload_n 0, 1) := by decide +kernel
theorem dX6_takeWhole_11 : decode cX6_takeWhole 11 = .ok (.aload_n 1, 1) := by decide +kernel
theorem dX6_takeWhole_12 : decode cX6_takeWhole 12 = .ok (.getfield 42, 3) := by decide +kernel
theorem dX6_takeWhole_15 : decode cX6_takeWhole 15 = .ok (.getfield 47, 3) := by decide +kernel
theorem dX6_takeWhole_18 : decode cX6_takeWhole 18 = .ok (.putfield 26, 3) := by decide +kernel
theorem dX6_takeWhole_21 : decode cX6_takeWhole 21 = .ok (.aload_n 0, 1) := by decide +kernel
theorem dX6_takeWhole_22 : decode cX6_takeWhole 22 = .ok (.aload_n 0, 1) := by decide +kernel
theorem dX6_takeWhole_23 : decode cX6_takeWhole 23 = .ok (.getfield 26, 3) := by decide +kernel
theorem dX6_takeWhole_26 : decode cX6_takeWhole 26 = .ok (.ifCond .le 7, 3) := by decide +kernel
theorem dX6_takeWhole_29 : decode cX6_takeWhole 29 = .ok (.iconst 1, 1) := by decide +kernel
theorem dX6_takeWhole_30 : decode cX6_takeWhole 30 = .ok (.goto 4, 3) := by decide +kernel
theorem dX6_takeWhole_33 : decode cX6_takeWhole 33 = .ok (.iconst 0, 1) := by decide +kernel
theorem dX6_takeWhole_34 : decode cX6_takeWhole 34 = .ok (.putfield 29, 3) := by decide +kernel
theorem dX6_takeWhole_37 : decode cX6_takeWhole 37 = .ok (.aload_n 0, 1) := by decide +kernel
theorem dX6_takeWhole_38 : decode cX6_takeWhole 38 = .ok (.getfield 35, 3) := by decide +kernel
theorem dX6_takeWhole_41 : decode cX6_takeWhole 41 = .ok (.aload_n 1, 1) := by decide +kernel
theorem dX6_takeWhole_42 : decode cX6_takeWhole 42 = .ok (.getfield 42, 3) := by decide +kernel
theorem dX6_takeWhole_45 : decode cX6_takeWhole 45 = .ok (.invokevirtual 48, 3) := by decide +kernel
theorem dX6_takeWhole_48 : decode cX6_takeWhole 48 = .ok (.return_, 1) := by decide +kernel
theorem dX6_takeSawn_0 : decode cX6_takeSawn 0 = .ok (.aload_n 0, 1) := by decide +kernel
theorem dX6_takeSawn_1 : decode cX6_takeSawn 1 = .ok (.aload_n 1, 1) := by decide +kernel
theorem dX6_takeSawn_2 : decode cX6_takeSawn 2 = .ok (.getfield 52, 3) := by decide +kernel
theorem dX6_takeSawn_5 : decode cX6_takeSawn 5 = .ok (.putfield 19, 3) := by decide +kernel
theorem dX6_takeSawn_8 : decode cX6_takeSawn 8 = .ok (.aload_n 0, 1) := by decide +kernel
theorem dX6_takeSawn_9 : decode cX6_takeSawn 9 = .ok (.aload_n 1, 1) := by decide +kernel
theorem dX6_takeSawn_10 : decode cX6_takeSawn 10 = .ok (.getfield 53, 3) := by decide +kernel
theorem dX6_takeSawn_13 : decode cX6_takeSawn 13 = .ok (.putfield 23, 3) := by decide +kernel
theorem dX6_takeSawn_16 : decode cX6_takeSawn 16 = .ok (.aload_n 0, 1) := by decide +kernel
theorem dX6_takeSawn_17 : decode cX6_takeSawn 17 = .ok (.aload_n 1, 1) := by decide +kernel
theorem dX6_takeSawn_18 : decode cX6_takeSawn 18 = .ok (.getfield 42, 3) := by decide +kernel
theorem dX6_takeSawn_21 : decode cX6_takeSawn 21 = .ok (.getfield 47, 3) := by decide +kernel
theorem dX6_takeSawn_24 : decode cX6_takeSawn 24 = .ok (.aload_n 2, 1) := by decide +kernel
theorem dX6_takeSawn_25 : decode cX6_takeSawn 25 = .ok (.getfield 42, 3) := by decide +kernel
theorem dX6_takeSawn_28 : decode cX6_takeSawn 28 = .ok (.getfield 47, 3) := by decide +kernel
theorem dX6_takeSawn_31 : decode cX6_takeSawn 31 = .ok (.iadd, 1) := by decide +kernel
theorem dX6_takeSawn_32 : decode cX6_takeSawn 32 = .ok (.putfield 26, 3) := by decide +kernel
theorem dX6_takeSawn_35 : decode cX6_takeSawn 35 = .ok (.aload_n 0, 1) := by decide +kernel
theorem dX6_takeSawn_36 : decode cX6_takeSawn 36 = .ok (.iconst 2, 1) := by decide +kernel
theorem dX6_takeSawn_37 : decode cX6_takeSawn 37 = .ok (.putfield 29, 3) := by decide +kernel
theorem dX6_takeSawn_40 : decode cX6_takeSawn 40 = .ok (.aload_n 0, 1) := by decide +kernel
theorem dX6_takeSawn_41 : decode cX6_takeSawn 41 = .ok (.getfield 35, 3) := by decide +kernel
theorem dX6_takeSawn_44 : decode cX6_takeSawn 44 = .ok (.aload_n 1, 1) := by decide +kernel
theorem dX6_takeSawn_45 : decode cX6_takeSawn 45 = .ok (.getfield 42, 3) := by decide +kernel
theorem dX6_takeSawn_48 : decode cX6_takeSawn 48 = .ok (.invokevirtual 48, 3) := by decide +kernel
theorem dX6_takeSawn_51 : decode cX6_takeSawn 51 = .ok (.aload_n 0, 1) := by decide +kernel
theorem dX6_takeSawn_52 : decode cX6_takeSawn 52 = .ok (.getfield 39, 3) := by decide +kernel
theorem dX6_takeSawn_55 : decode cX6_takeSawn 55 = .ok (.aload_n 2, 1) := by decide +kernel
theorem dX6_takeSawn_56 : decode cX6_takeSawn 56 = .ok (.getfield 42, 3) := by decide +kernel
theorem dX6_takeSawn_59 : decode cX6_takeSawn 59 = .ok (.invokevirtual 48, 3) := by decide +kernel
theorem dX6_takeSawn_62 : decode cX6_takeSawn 62 = .ok (.return_, 1) := by decide +kernel
theorem dX7_init_0 : decode cX7_init 0 = .ok (.aload_n 0, 1) := by decide +kernel
theorem dX7_init_1 : decode cX7_init 1 = .ok (.invokespecial 5, 3) := by decide +kernel
theorem dX7_init_4 : decode cX7_init 4 = .ok (.aload_n 0, 1) := by decide +kernel
theorem dX7_init_5 : decode cX7_init 5 = .ok (.bipush 25, 2) := by decide +kernel
theorem dX7_init_7 : decode cX7_init 7 = .ok (.anewarray 11, 3) := by decide +kernel
theorem dX7_init_10 : decode cX7_init 10 = .ok (.putfield 13, 3) := by decide +kernel
theorem dX7_init_13 : decode cX7_init 13 = .ok (.aload_n 0, 1) := by decide +kernel
theorem dX7_init_14 : decode cX7_init 14 = .ok (.new 17, 3) := by decide +kernel
theorem dX7_init_17 : decode cX7_init 17 = .ok (.dup, 1) := by decide +kernel
theorem dX7_init_18 : decode cX7_init 18 = .ok (.invokespecial 19, 3) := by decide +kernel
theorem dX7_init_21 : decode cX7_init 21 = .ok (.putfield 20, 3) := by decide +kernel
theorem dX7_init_24 : decode cX7_init 24 = .ok (.aload_n 0, 1) := by decide +kernel
theorem dX7_init_25 : decode cX7_init 25 = .ok (.bipush 6, 2) := by decide +kernel
theorem dX7_init_27 : decode cX7_init 27 = .ok (.newarray .long, 2) := by decide +kernel
theorem dX7_init_29 : decode cX7_init 29 = .ok (.putfield 24, 3) := by decide +kernel
theorem dX7_init_32 : decode cX7_init 32 = .ok (.aload_n 0, 1) := by decide +kernel
theorem dX7_init_33 : decode cX7_init 33 = .ok (.iconst 3, 1) := by decide +kernel
theorem dX7_init_34 : decode cX7_init 34 = .ok (.newarray .int, 2) := by decide +kernel
theorem dX7_init_36 : decode cX7_init 36 = .ok (.putfield 28, 3) := by decide +kernel
theorem dX7_init_39 : decode cX7_init 39 = .ok (.aload_n 0, 1) := by decide +kernel
theorem dX7_init_40 : decode cX7_init 40 = .ok (.getfield 13, 3) := by decide +kernel
theorem dX7_init_43 : decode cX7_init 43 = .ok (.iconst 0, 1) := by decide +kernel
theorem dX7_init_44 : decode cX7_init 44 = .ok (.new 11, 3) := by decide +kernel
theorem dX7_init_47 : decode cX7_init 47 = .ok (.dup, 1) := by decide +kernel
theorem dX7_init_48 : decode cX7_init 48 = .ok (.iconst 2, 1) := by decide +kernel
theorem dX7_init_49 : decode cX7_init 49 = .ok (.iconst 0, 1) := by decide +kernel
theorem dX7_init_50 : decode cX7_init 50 = .ok (.bipush 6, 2) := by decide +kernel
theorem dX7_init_52 : decode cX7_init 52 = .ok (.invokespecial 32, 3) := by decide +kernel
theorem dX7_init_55 : decode cX7_init 55 = .ok (.aastore, 1) := by decide +kernel
theorem dX7_init_56 : decode cX7_init 56 = .ok (.iconst 0, 1) := by decide +kernel
theorem dX7_init_57 : decode cX7_init 57 = .ok (.istore_n 1, 1) := by decide +kernel
theorem dX7_init_58 : decode cX7_init 58 = .ok (.iload_n 1, 1) := by decide +kernel
theorem dX7_init_59 : decode cX7_init 59 = .ok (.bipush 12, 2) := by decide +kernel
theorem dX7_init_61 : decode cX7_init 61 = .ok (.if_icmp .ge 62, 3) := by decide +kernel
theorem dX7_init_64 : decode cX7_init 64 = .ok (.iload_n 1, 1) := by decide +kernel
theorem dX7_init_65 : decode cX7_init 65 = .ok (.iconst 4, 1) := by decide +kernel
theorem dX7_init_66 : decode cX7_init 66 = .ok (.idiv, 1) := by decide +kernel
theorem dX7_init_67 : decode cX7_init 67 = .ok (.istore_n 2, 1) := by decide +kernel
theorem dX7_init_68 : decode cX7_init 68 = .ok (.iload_n 1, 1) := by decide +kernel
theorem dX7_init_69 : decode cX7_init 69 = .ok (.iconst 4, 1) := by decide +kernel
theorem dX7_init_70 : decode cX7_init 70 = .ok (.irem, 1) := by decide +kernel
theorem dX7_init_71 : decode cX7_init 71 = .ok (.iconst 1, 1) := by decide +kernel
theorem dX7_init_72 : decode cX7_init 72 = .ok (.iadd, 1) := by decide +kernel
theorem dX7_init_73 : decode cX7_init 73 = .ok (.istore_n 3, 1) := by decide +kernel
theorem dX7_init_74 : decode cX7_init 74 = .ok (.aload_n 0, 1) := by decide +kernel
theorem dX7_init_75 : decode cX7_init 75 = .ok (.getfield 13, 3) := by decide +kernel
theorem dX7_init_78 : decode cX7_init 78 = .ok (.iconst 2, 1) := by decide +kernel
theorem dX7_init_79 : decode cX7_init 79 = .ok (.iload_n 1, 1) := by decide +kernel
theorem dX7_init_80 : decode cX7_init 80 = .ok (.imul, 1) := by decide +kernel
theorem dX7_init_81 : decode cX7_init 81 = .ok (.iconst 1, 1) := by decide +kernel
theorem dX7_init_82 : decode cX7_init 82 = .ok (.iadd, 1) := by decide +kernel
theorem dX7_init_83 : decode cX7_init 83 = .ok (.new 11, 3) := by decide +kernel
theorem dX7_init_86 : decode cX7_init 86 = .ok (.dup, 1) := by decide +kernel
theorem dX7_init_87 : decode cX7_init 87 = .ok (.iload_n 2, 1) := by decide +kernel
theorem dX7_init_88 : decode cX7_init 88 = .ok (.iconst 0, 1) := by decide +kernel
theorem dX7_init_89 : decode cX7_init 89 = .ok (.iload_n 3, 1) := by decide +kernel
theorem dX7_init_90 : decode cX7_init 90 = .ok (.invokespecial 32, 3) := by decide +kernel
theorem dX7_init_93 : decode cX7_init 93 = .ok (.aastore, 1) := by decide +kernel
theorem dX7_init_94 : decode cX7_init 94 = .ok (.aload_n 0, 1) := by decide +kernel
theorem dX7_init_95 : decode cX7_init 95 = .ok (.getfield 13, 3) := by decide +kernel
theorem dX7_init_98 : decode cX7_init 98 = .ok (.iconst 2, 1) := by decide +kernel
theorem dX7_init_99 : decode cX7_init 99 = .ok (.iload_n 1, 1) := by decide +kernel
theorem dX7_init_100 : decode cX7_init 100 = .ok (.imul, 1) := by decide +kernel
theorem dX7_init_101 : decode cX7_init 101 = .ok (.iconst 2, 1) := by decide +kernel
theorem dX7_init_102 : decode cX7_init 102 = .ok (.iadd, 1) := by decide +kernel
theorem dX7_init_103 : decode cX7_init 103 = .ok (.new 11, 3) := by decide +kernel
theorem dX7_init_106 : decode cX7_init 106 = .ok (.dup, 1) := by decide +kernel
theorem dX7_init_107 : decode cX7_init 107 = .ok (.iload_n 2, 1) := by decide +kernel
theorem dX7_init_108 : decode cX7_init 108 = .ok (.iload_n 3, 1) := by decide +kernel
theorem dX7_init_109 : decode cX7_init 109 = .ok (.iconst 1, 1) := by decide +kernel
theorem dX7_init_110 : decode cX7_init 110 = .ok (.iadd, 1) := by decide +kernel
theorem dX7_init_111 : decode cX7_init 111 = .ok (.bipush 6, 2) := by decide +kernel
theorem dX7_init_113 : decode cX7_init 113 = .ok (.invokespecial 32, 3) := by decide +kernel
theorem dX7_init_116 : decode cX7_init 116 = .ok (.aastore, 1) := by decide +kernel
theorem dX7_init_117 : decode cX7_init 117 = .ok (.iinc 1 1, 3) := by decide +kernel
theorem dX7_init_120 : decode cX7_init 120 = .ok (.goto (-62), 3) := by decide +kernel
theorem dX7_init_123 : decode cX7_init 123 = .ok (.return_, 1) := by decide +kernel
theorem dX7_choose_0 : decode cX7_choose 0 = .ok (.aload_n 1, 1) := by decide +kernel
theorem dX7_choose_1 : decode cX7_choose 1 = .ok (.aload_n 0, 1) := by decide +kernel
theorem dX7_choose_2 : decode cX7_choose 2 = .ok (.getfield 13, 3) := by decide +kernel
theorem dX7_choose_5 : decode cX7_choose 5 = .ok (.iconst 0, 1) := by decide +kernel
theorem dX7_choose_6 : decode cX7_choose 6 = .ok (.aaload, 1) := by decide +kernel
theorem dX7_choose_7 : decode cX7_choose 7 = .ok (.invokevirtual 144, 3) := by decide +kernel
theorem dX7_choose_10 : decode cX7_choose 10 = .ok (.iconst 0, 1) := by decide +kernel
theorem dX7_choose_11 : decode cX7_choose 11 = .ok (.istore_n 2, 1) := by decide +kernel
theorem dX7_choose_12 : decode cX7_choose 12 = .ok (.iload_n 2, 1) := by decide +kernel
theorem dX7_choose_13 : decode cX7_choose 13 = .ok (.bipush 12, 2) := by decide +kernel
theorem dX7_choose_15 : decode cX7_choose 15 = .ok (.if_icmp .ge 62, 3) := by decide +kernel
theorem dX7_choose_18 : decode cX7_choose 18 = .ok (.aload_n 0, 1) := by decide +kernel
theorem dX7_choose_19 : decode cX7_choose 19 = .ok (.getfield 13, 3) := by decide +kernel
theorem dX7_choose_22 : decode cX7_choose 22 = .ok (.iconst 2, 1) := by decide +kernel
theorem dX7_choose_23 : decode cX7_choose 23 = .ok (.iload_n 2, 1) := by decide +kernel
theorem dX7_choose_24 : decode cX7_choose 24 = .ok (.imul, 1) := by decide +kernel
theorem dX7_choose_25 : decode cX7_choose 25 = .ok (.iconst 1, 1) := by decide +kernel
theorem dX7_choose_26 : decode cX7_choose 26 = .ok (.iadd, 1) := by decide +kernel
theorem dX7_choose_27 : decode cX7_choose 27 = .ok (.aaload, 1) := by decide +kernel
theorem dX7_choose_28 : decode cX7_choose 28 = .ok (.astore_n 3, 1) := by decide +kernel
theorem dX7_choose_29 : decode cX7_choose 29 = .ok (.aload_n 0, 1) := by decide +kernel
theorem dX7_choose_30 : decode cX7_choose 30 = .ok (.getfield 13, 3) := by decide +kernel
theorem dX7_choose_33 : decode cX7_choose 33 = .ok (.iconst 2, 1) := by decide +kernel
theorem dX7_choose_34 : decode cX7_choose 34 = .ok (.iload_n 2, 1) := by decide +kernel
theorem dX7_choose_35 : decode cX7_choose 35 = .ok (.imul, 1) := by decide +kernel
theorem dX7_choose_36 : decode cX7_choose 36 = .ok (.iconst 2, 1) := by decide +kernel
theorem dX7_choose_37 : decode cX7_choose 37 = .ok (.iadd, 1) := by decide +kernel
theorem dX7_choose_38 : decode cX7_choose 38 = .ok (.aaload, 1) := by decide +kernel
theorem dX7_choose_39 : decode cX7_choose 39 = .ok (.astore 4, 2) := by decide +kernel
theorem dX7_choose_41 : decode cX7_choose 41 = .ok (.aload_n 3, 1) := by decide +kernel
theorem dX7_choose_42 : decode cX7_choose 42 = .ok (.getfield 35, 3) := by decide +kernel
theorem dX7_choose_45 : decode cX7_choose 45 = .ok (.getfield 38, 3) := by decide +kernel
theorem dX7_choose_48 : decode cX7_choose 48 = .ok (.aload 4, 2) := by decide +kernel
theorem dX7_choose_50 : decode cX7_choose 50 = .ok (.getfield 35, 3) := by decide +kernel
theorem dX7_choose_53 : decode cX7_choose 53 = .ok (.getfield 38, 3) := by decide +kernel
theorem dX7_choose_56 : decode cX7_choose 56 = .ok (.iadd, 1) := by decide +kernel
theorem dX7_choose_57 : decode cX7_choose 57 = .ok (.aload_n 1, 1) := by decide +kernel
theorem dX7_choose_58 : decode cX7_choose 58 = .ok (.getfield 148, 3) := by decide +kernel
theorem dX7_choose_61 : decode cX7_choose 61 = .ok (.if_icmp .le 10, 3) := by decide +kernel
theorem dX7_choose_64 : decode cX7_choose 64 = .ok (.aload_n 1, 1) := by decide +kernel
theorem dX7_choose_65 : decode cX7_choose 65 = .ok (.aload_n 3, 1) := by decide +kernel
theorem dX7_choose_66 : decode cX7_choose 66 = .ok (.aload 4, 2) := by decide +kernel
theorem dX7_choose_68 : decode cX7_choose 68 = .ok (.invokevirtual 149, 3) := by decide +kernel
theorem dX7_choose_71 : decode cX7_choose 71 = .ok (.iinc 2 1, 3) := by decide +kernel
theorem dX7_choose_74 : decode cX7_choose 74 = .ok (.goto (-62), 3) := by decide +kernel
theorem dX7_choose_77 : decode cX7_choose 77 = .ok (.return_, 1) := by decide +kernel
theorem dX7_isWanted_0 : decode cX7_isWanted 0 = .ok (.iconst 0, 1) := by decide +kernel
theorem dX7_isWanted_1 : decode cX7_isWanted 1 = .ok (.istore_n 1, 1) := by decide +kernel
theorem dX7_isWanted_2 : decode cX7_isWanted 2 = .ok (.iload_n 1, 1) := by decide +kernel
theorem dX7_isWanted_3 : decode cX7_isWanted 3 = .ok (.aload_n 0, 1) := by decide +kernel
theorem dX7_isWanted_4 : decode cX7_isWanted 4 = .ok (.getfield 13, 3) := by decide +kernel
theorem dX7_isWanted_7 : decode cX7_isWanted 7 = .ok (.arraylength, 1) := by decide +kernel
theorem dX7_isWanted_8 : decode cX7_isWanted 8 = .ok (.if_icmp .ge 33, 3) := by decide +kernel
theorem dX7_isWanted_11 : decode cX7_isWanted 11 = .ok (.aload_n 0, 1) := by decide +kernel
theorem dX7_isWanted_12 : decode cX7_isWanted 12 = .ok (.getfield 20, 3) := by decide +kernel
theorem dX7_isWanted_15 : decode cX7_isWanted 15 = .ok (.getfield 38, 3) := by decide +kernel
theorem dX7_isWanted_18 : decode cX7_isWanted 18 = .ok (.aload_n 0, 1) := by decide +kernel
theorem dX7_isWanted_19 : decode cX7_isWanted 19 = .ok (.getfield 13, 3) := by decide +kernel
theorem dX7_isWanted_22 : decode cX7_isWanted 22 = .ok (.iload_n 1, 1) := by decide +kernel
theorem dX7_isWanted_23 : decode cX7_isWanted 23 = .ok (.aaload, 1) := by decide +kernel
theorem dX7_isWanted_24 : decode cX7_isWanted 24 = .ok (.getfield 35, 3) := by decide +kernel
theorem dX7_isWanted_27 : decode cX7_isWanted 27 = .ok (.getfield 38, 3) := by decide +kernel
theorem dX7_isWanted_30 : decode cX7_isWanted 30 = .ok (.if_icmp .le 5, 3) := by decide +kernel
theorem dX7_isWanted_33 : decode cX7_isWanted 33 = .ok (.iconst 1, 1) := by decide +kernel
theorem dX7_isWanted_34 : decode cX7_isWanted 34 = .ok (.ireturn, 1) := by decide +kernel
theorem dX7_isWanted_35 : decode cX7_isWanted 35 = .ok (.iinc 1 1, 3) := by decide +kernel
theorem dX7_isWanted_38 : decode cX7_isWanted 38 = .ok (.goto (-36), 3) := by decide +kernel
theorem dX7_isWanted_41 : decode cX7_isWanted 41 = .ok (.iconst 0, 1) := by decide +kernel
theorem dX7_isWanted_42 : decode cX7_isWanted 42 = .ok (.ireturn, 1) := by decide +kernel
theorem dX7_firstWithin_0 : decode cX7_firstWithin 0 = .ok (.aload_n 1, 1) := by decide +kernel
theorem dX7_firstWithin_1 : decode cX7_firstWithin 1 = .ok (.getfield 125, 3) := by decide +kernel
theorem dX7_firstWithin_4 : decode cX7_firstWithin 4 = .ok (.aload_n 0, 1) := by decide +kernel
theorem dX7_firstWithin_5 : decode cX7_firstWithin 5 = .ok (.getfield 28, 3) := by decide +kernel
theorem dX7_firstWithin_8 : decode cX7_firstWithin 8 = .ok (.aload_n 1, 1) := by decide +kernel
theorem dX7_firstWithin_9 : decode cX7_firstWithin 9 = .ok (.getfield 128, 3) := by decide +kernel
theorem dX7_firstWithin_12 : decode cX7_firstWithin 12 = .ok (.iaload, 1) := by decide +kernel
theorem dX7_firstWithin_13 : decode cX7_firstWithin 13 = .ok (.isub, 1) := by decide +kernel
theorem dX7_firstWithin_14 : decode cX7_firstWithin 14 = .ok (.istore_n 2, 1) := by decide +kernel
theorem dX7_firstWithin_15 : decode cX7_firstWithin 15 = .ok (.iload_n 2, 1) := by decide +kernel
theorem dX7_firstWithin_16 : decode cX7_firstWithin 16 = .ok (.aload_n 1, 1) := by decide +kernel
theorem dX7_firstWithin_17 : decode cX7_firstWithin 17 = .ok (.getfield 131, 3) := by decide +kernel
theorem dX7_firstWithin_20 : decode cX7_firstWithin 20 = .ok (.if_icmp .ge 5, 3) := by decide +kernel
theorem dX7_firstWithin_23 : decode cX7_firstWithin 23 = .ok (.iconst (-1), 1) := by decide +kernel
theorem dX7_firstWithin_24 : decode cX7_firstWithin 24 = .ok (.ireturn, 1) := by decide +kernel
theorem dX7_firstWithin_25 : decode cX7_firstWithin 25 = .ok (.ldc2_w 134, 3) := by decide +kernel
theorem dX7_firstWithin_28 : decode cX7_firstWithin 28 = .ok (.lstore_n 3, 1) := by decide +kernel
theorem dX7_firstWithin_29 : decode cX7_firstWithin 29 = .ok (.aload_n 1, 1) := by decide +kernel
theorem dX7_firstWithin_30 : decode cX7_firstWithin 30 = .ok (.getfield 128, 3) := by decide +kernel
theorem dX7_firstWithin_33 : decode cX7_firstWithin 33 = .ok (.ifCond .ne 17, 3) := by decide +kernel
theorem dX7_firstWithin_36 : decode cX7_firstWithin 36 = .ok (.aload_n 1, 1) := by decide +kernel
theorem dX7_firstWithin_37 : decode cX7_firstWithin 37 = .ok (.getfield 131, 3) := by decide +kernel
theorem dX7_firstWithin_40 : decode cX7_firstWithin 40 = .ok (.iload_n 2, 1) := by decide +kernel
theorem dX7_firstWithin_41 : decode cX7_firstWithin 41 = .ok (.iconst 0, 1) := by decide +kernel
theorem dX7_firstWithin_42 : decode cX7_firstWithin 42 = .ok (.iconst 5, 1) := by decide +kernel
theorem dX7_firstWithin_43 : decode cX7_firstWithin 43 = .ok (.invokestatic 136, 3) := by decide +kernel
theorem dX7_firstWithin_46 : decode cX7_firstWithin 46 = .ok (.lstore_n 3, 1) := by decide +kernel
theorem dX7_firstWithin_47 : decode cX7_firstWithin 47 = .ok (.goto 22, 3) := by decide +kernel
theorem dX7_firstWithin_50 : decode cX7_firstWithin 50 = .ok (.aload_n 1, 1) := by decide +kernel
theorem dX7_firstWithin_51 : decode cX7_firstWithin 51 = .ok (.getfield 128, 3) := by decide +kernel
theorem dX7_firstWithin_54 : decode cX7_firstWithin 54 = .ok (.iconst 1, 1) := by decide +kernel
theorem dX7_firstWithin_55 : decode cX7_firstWithin 55 = .ok (.if_icmp .ne 14, 3) := by decide +kernel
theorem dX7_firstWithin_58 : decode cX7_firstWithin 58 = .ok (.iconst 0, 1) := by decide +kernel
theorem dX7_firstWithin_59 : decode cX7_firstWithin 59 = .ok (.iconst 5, 1) := by decide +kernel
theorem dX7_firstWithin_60 : decode cX7_firstWithin 60 = .ok (.aload_n 1, 1) := by decide +kernel
theorem dX7_firstWithin_61 : decode cX7_firstWithin 61 = .ok (.getfield 131, 3) := by decide +kernel
theorem dX7_firstWithin_64 : decode cX7_firstWithin 64 = .ok (.iload_n 2, 1) := by decide +kernel
theorem dX7_firstWithin_65 : decode cX7_firstWithin 65 = .ok (.invokestatic 136, 3) := by decide +kernel
theorem dX7_firstWithin_68 : decode cX7_firstWithin 68 = .ok (.lstore_n 3, 1) := by decide +kernel
theorem dX7_firstWithin_69 : decode cX7_firstWithin 69 = .ok (.iconst 0, 1) := by decide +kernel
theorem dX7_firstWithin_70 : decode cX7_firstWithin 70 = .ok (.istore 5, 2) := by decide +kernel
theorem dX7_firstWithin_72 : decode cX7_firstWithin 72 = .ok (.iload 5, 2) := by decide +kernel
theorem dX7_firstWithin_74 : decode cX7_firstWithin 74 = .ok (.bipush 6, 2) := by decide +kernel
theorem dX7_firstWithin_76 : decode cX7_firstWithin 76 = .ok (.if_icmp .ge 78, 3) := by decide +kernel
theorem dX7_firstWithin_79 : decode cX7_firstWithin 79 = .ok (.aload_n 1, 1) := by decide +kernel
theorem dX7_firstWithin_80 : decode cX7_firstWithin 80 = .ok (.getfield 128, 3) := by decide +kernel
theorem dX7_firstWithin_83 : decode cX7_firstWithin 83 = .ok (.iconst 2, 1) := by decide +kernel
theorem dX7_firstWithin_84 : decode cX7_firstWithin 84 = .ok (.if_icmp .ne 22, 3) := by decide +kernel
theorem dX7_firstWithin_87 : decode cX7_firstWithin 87 = .ok (.iload 5, 2) := by decide +kernel
theorem dX7_firstWithin_89 : decode cX7_firstWithin 89 = .ok (.aload_n 1, 1) := by decide +kernel
theorem dX7_firstWithin_90 : decode cX7_firstWithin 90 = .ok (.getfield 131, 3) := by decide +kernel
theorem dX7_firstWithin_93 : decode cX7_firstWithin 93 = .ok (.if_icmp .lt 9, 3) := by decide +kernel
theorem dX7_firstWithin_96 : decode cX7_firstWithin 96 = .ok (.iload 5, 2) := by decide +kernel
theorem dX7_firstWithin_98 : decode cX7_firstWithin 98 = .ok (.iload_n 2, 1) := by decide +kernel
theorem dX7_firstWithin_99 : decode cX7_firstWithin 99 = .ok (.if_icmp .le 7, 3) := by decide +kernel
theorem dX7_firstWithin_102 : decode cX7_firstWithin 102 = .ok (.iconst 1, 1) := by decide +kernel
theorem dX7_firstWithin_103 : decode cX7_firstWithin 103 = .ok (.goto 4, 3) := by decide +kernel
theorem dX7_firstWithin_106 : decode cX7_firstWithin 106 = .ok (.iconst 0, 1) := by decide +kernel
theorem dX7_firstWithin_107 : decode cX7_firstWithin 107 = .ok (.istore 6, 2) := by decide +kernel
theorem dX7_firstWithin_109 : decode cX7_firstWithin 109 = .ok (.iload 6, 2) := by decide +kernel
theorem dX7_firstWithin_111 : decode cX7_firstWithin 111 = .ok (.ifCond .eq 7, 3) := by decide +kernel
theorem dX7_firstWithin_114 : decode cX7_firstWithin 114 = .ok (.lconst 0, 1) := by decide +kernel
theorem dX7_firstWithin_115 : decode cX7_firstWithin 115 = .ok (.goto 12, 3) := by decide +kernel
theorem dX7_firstWithin_118 : decode cX7_firstWithin 118 = .ok (.aload_n 0, 1) := by decide +kernel
theorem dX7_firstWithin_119 : decode cX7_firstWithin 119 = .ok (.getfield 24, 3) := by decide +kernel
theorem dX7_firstWithin_122 : decode cX7_firstWithin 122 = .ok (.iload 5, 2) := by decide +kernel
theorem dX7_firstWithin_124 : decode cX7_firstWithin 124 = .ok (.laload, 1) := by decide +kernel
theorem dX7_firstWithin_125 : decode cX7_firstWithin 125 = .ok (.lload_n 3, 1) := by decide +kernel
theorem dX7_firstWithin_126 : decode cX7_firstWithin 126 = .ok (.land, 1) := by decide +kernel
theorem dX7_firstWithin_127 : decode cX7_firstWithin 127 = .ok (.lstore 7, 2) := by decide +kernel
theorem dX7_firstWithin_129 : decode cX7_firstWithin 129 = .ok (.lload 7, 2) := by decide +kernel
theorem dX7_firstWithin_131 : decode cX7_firstWithin 131 = .ok (.lconst 0, 1) := by decide +kernel
theorem dX7_firstWithin_132 : decode cX7_firstWithin 132 = .ok (.lcmp, 1) := by decide +kernel
theorem dX7_firstWithin_133 : decode cX7_firstWithin 133 = .ok (.ifCond .eq 15, 3) := by decide +kernel
theorem dX7_firstWithin_136 : decode cX7_firstWithin 136 = .ok (.bipush 36, 2) := by decide +kernel
theorem dX7_firstWithin_138 : decode cX7_firstWithin 138 = .ok (.iload 5, 2) := by decide +kernel
theorem dX7_firstWithin_140 : decode cX7_firstWithin 140 = .ok (.imul, 1) := by decide +kernel
theorem dX7_firstWithin_141 : decode cX7_firstWithin 141 = .ok (.lload 7, 2) := by decide +kernel
theorem dX7_firstWithin_143 : decode cX7_firstWithin 143 = .ok (.invokestatic 140, 3) := by decide +kernel
theorem dX7_firstWithin_146 : decode cX7_firstWithin 146 = .ok (.iadd, 1) := by decide +kernel
theorem dX7_firstWithin_147 : decode cX7_firstWithin 147 = .ok (.ireturn, 1) := by decide +kernel
theorem dX7_firstWithin_148 : decode cX7_firstWithin 148 = .ok (.iinc 5 1, 3) := by decide +kernel
theorem dX7_firstWithin_151 : decode cX7_firstWithin 151 = .ok (.goto (-79), 3) := by decide +kernel
theorem dX7_firstWithin_154 : decode cX7_firstWithin 154 = .ok (.iconst (-1), 1) := by decide +kernel
theorem dX7_firstWithin_155 : decode cX7_firstWithin 155 = .ok (.ireturn, 1) := by decide +kernel
theorem dX7_offerTo_0 : decode cX7_offerTo 0 = .ok (.aload_n 0, 1) := by decide +kernel
theorem dX7_offerTo_1 : decode cX7_offerTo 1 = .ok (.getfield 20, 3) := by decide +kernel
theorem dX7_offerTo_4 : decode cX7_offerTo 4 = .ok (.getfield 38, 3) := by decide +kernel
theorem dX7_offerTo_7 : decode cX7_offerTo 7 = .ok (.aload_n 1, 1) := by decide +kernel
theorem dX7_offerTo_8 : decode cX7_offerTo 8 = .ok (.getfield 35, 3) := by decide +kernel
theorem dX7_offerTo_11 : decode cX7_offerTo 11 = .ok (.getfield 38, 3) := by decide +kernel
theorem dX7_offerTo_14 : decode cX7_offerTo 14 = .ok (.if_icmp .le 11, 3) := by decide +kernel
theorem dX7_offerTo_17 : decode cX7_offerTo 17 = .ok (.aload_n 0, 1) := by decide +kernel
theorem dX7_offerTo_18 : decode cX7_offerTo 18 = .ok (.aload_n 1, 1) := by decide +kernel
theorem dX7_offerTo_19 : decode cX7_offerTo 19 = .ok (.invokevirtual 102, 3) := by decide +kernel
theorem dX7_offerTo_22 : decode cX7_offerTo 22 = .ok (.goto 4, 3) := by decide +kernel
theorem dX7_offerTo_25 : decode cX7_offerTo 25 = .ok (.iconst (-1), 1) := by decide +kernel
theorem dX7_offerTo_26 : decode cX7_offerTo 26 = .ok (.istore_n 3, 1) := by decide +kernel
theorem dX7_offerTo_27 : decode cX7_offerTo 27 = .ok (.iload_n 3, 1) := by decide +kernel
theorem dX7_offerTo_28 : decode cX7_offerTo 28 = .ok (.iconst (-1), 1) := by decide +kernel
theorem dX7_offerTo_29 : decode cX7_offerTo 29 = .ok (.if_icmp .eq 125, 3) := by decide +kernel
theorem dX7_offerTo_32 : decode cX7_offerTo 32 = .ok (.iconst 3, 1) := by decide +kernel
theorem dX7_offerTo_33 : decode cX7_offerTo 33 = .ok (.aload_n 0, 1) := by decide +kernel
theorem dX7_offerTo_34 : decode cX7_offerTo 34 = .ok (.getfield 20, 3) := by decide +kernel
theorem dX7_offerTo_37 : decode cX7_offerTo 37 = .ok (.getfield 86, 3) := by decide +kernel
theorem dX7_offerTo_40 : decode cX7_offerTo 40 = .ok (.imul, 1) := by decide +kernel
theorem dX7_offerTo_41 : decode cX7_offerTo 41 = .ok (.istore 4, 2) := by decide +kernel
theorem dX7_offerTo_43 : decode cX7_offerTo 43 = .ok (.aload_n 0, 1) := by decide +kernel
theorem dX7_offerTo_44 : decode cX7_offerTo 44 = .ok (.getfield 20, 3) := by decide +kernel
theorem dX7_offerTo_47 : decode cX7_offerTo 47 = .ok (.iload_n 3, 1) := by decide +kernel
theorem dX7_offerTo_48 : decode cX7_offerTo 48 = .ok (.bipush 6, 2) := by decide +kernel
theorem dX7_offerTo_50 : decode cX7_offerTo 50 = .ok (.irem, 1) := by decide +kernel
theorem dX7_offerTo_51 : decode cX7_offerTo 51 = .ok (.aload_n 0, 1) := by decide +kernel
theorem dX7_offerTo_52 : decode cX7_offerTo 52 = .ok (.getfield 20, 3) := by decide +kernel
theorem dX7_offerTo_55 : decode cX7_offerTo 55 = .ok (.getfield 60, 3) := by decide +kernel
theorem dX7_offerTo_58 : decode cX7_offerTo 58 = .ok (.aload_n 2, 1) := by decide +kernel
theorem dX7_offerTo_59 : decode cX7_offerTo 59 = .ok (.getfield 106, 3) := by decide +kernel
theorem dX7_offerTo_62 : decode cX7_offerTo 62 = .ok (.getstatic 109, 3) := by decide +kernel
theorem dX7_offerTo_65 : decode cX7_offerTo 65 = .ok (.iload 4, 2) := by decide +kernel
theorem dX7_offerTo_67 : decode cX7_offerTo 67 = .ok (.iaload, 1) := by decide +kernel
theorem dX7_offerTo_68 : decode cX7_offerTo 68 = .ok (.iaload, 1) := by decide +kernel
theorem dX7_offerTo_69 : decode cX7_offerTo 69 = .ok (.imul, 1) := by decide +kernel
theorem dX7_offerTo_70 : decode cX7_offerTo 70 = .ok (.isub, 1) := by decide +kernel
theorem dX7_offerTo_71 : decode cX7_offerTo 71 = .ok (.putfield 112, 3) := by decide +kernel
theorem dX7_offerTo_74 : decode cX7_offerTo 74 = .ok (.aload_n 0, 1) := by decide +kernel
theorem dX7_offerTo_75 : decode cX7_offerTo 75 = .ok (.getfield 20, 3) := by decide +kernel
theorem dX7_offerTo_78 : decode cX7_offerTo 78 = .ok (.iload_n 3, 1) := by decide +kernel
theorem dX7_offerTo_79 : decode cX7_offerTo 79 = .ok (.bipush 6, 2) := by decide +kernel
theorem dX7_offerTo_81 : decode cX7_offerTo 81 = .ok (.idiv, 1) := by decide +kernel
theorem dX7_offerTo_82 : decode cX7_offerTo 82 = .ok (.bipush 6, 2) := by decide +kernel
theorem dX7_offerTo_84 : decode cX7_offerTo 84 = .ok (.irem, 1) := by decide +kernel
theorem dX7_offerTo_85 : decode cX7_offerTo 85 = .ok (.aload_n 0, 1) := by decide +kernel
theorem dX7_offerTo_86 : decode cX7_offerTo 86 = .ok (.getfield 20, 3) := by decide +kernel
theorem dX7_offerTo_89 : decode cX7_offerTo 89 = .ok (.getfield 60, 3) := by decide +kernel
theorem dX7_offerTo_92 : decode cX7_offerTo 92 = .ok (.aload_n 2, 1) := by decide +kernel
theorem dX7_offerTo_93 : decode cX7_offerTo 93 = .ok (.getfield 106, 3) := by decide +kernel
theorem dX7_offerTo_96 : decode cX7_offerTo 96 = .ok (.getstatic 109, 3) := by decide +kernel
theorem dX7_offerTo_99 : decode cX7_offerTo 99 = .ok (.iload 4, 2) := by decide +kernel
theorem dX7_offerTo_101 : decode cX7_offerTo 101 = .ok (.iconst 1, 1) := by decide +kernel
theorem dX7_offerTo_102 : decode cX7_offerTo 102 = .ok (.iadd, 1) := by decide +kernel
theorem dX7_offerTo_103 : decode cX7_offerTo 103 = .ok (.iaload, 1) := by decide +kernel
theorem dX7_offerTo_104 : decode cX7_offerTo 104 = .ok (.iaload, 1) := by decide +kernel
theorem dX7_offerTo_105 : decode cX7_offerTo 105 = .ok (.imul, 1) := by decide +kernel
theorem dX7_offerTo_106 : decode cX7_offerTo 106 = .ok (.isub, 1) := by decide +kernel
theorem dX7_offerTo_107 : decode cX7_offerTo 107 = .ok (.putfield 115, 3) := by decide +kernel
theorem dX7_offerTo_110 : decode cX7_offerTo 110 = .ok (.aload_n 0, 1) := by decide +kernel
theorem dX7_offerTo_111 : decode cX7_offerTo 111 = .ok (.getfield 20, 3) := by decide +kernel
theorem dX7_offerTo_114 : decode cX7_offerTo 114 = .ok (.iload_n 3, 1) := by decide +kernel
theorem dX7_offerTo_115 : decode cX7_offerTo 115 = .ok (.bipush 36, 2) := by decide +kernel
theorem dX7_offerTo_117 : decode cX7_offerTo 117 = .ok (.idiv, 1) := by decide +kernel
theorem dX7_offerTo_118 : decode cX7_offerTo 118 = .ok (.aload_n 0, 1) := by decide +kernel
theorem dX7_offerTo_119 : decode cX7_offerTo 119 = .ok (.getfield 20, 3) := by decide +kernel
theorem dX7_offerTo_122 : decode cX7_offerTo 122 = .ok (.getfield 60, 3) := by decide +kernel
theorem dX7_offerTo_125 : decode cX7_offerTo 125 = .ok (.aload_n 2, 1) := by decide +kernel
theorem dX7_offerTo_126 : decode cX7_offerTo 126 = .ok (.getfield 106, 3) := by decide +kernel
theorem dX7_offerTo_129 : decode cX7_offerTo 129 = .ok (.getstatic 109, 3) := by decide +kernel
theorem dX7_offerTo_132 : decode cX7_offerTo 132 = .ok (.iload 4, 2) := by decide +kernel
theorem dX7_offerTo_134 : decode cX7_offerTo 134 = .ok (.iconst 2, 1) := by decide +kernel
theorem dX7_offerTo_135 : decode cX7_offerTo 135 = .ok (.iadd, 1) := by decide +kernel
theorem dX7_offerTo_136 : decode cX7_offerTo 136 = .ok (.iaload, 1) := by decide +kernel
theorem dX7_offerTo_137 : decode cX7_offerTo 137 = .ok (.iaload, 1) := by decide +kernel
theorem dX7_offerTo_138 : decode cX7_offerTo 138 = .ok (.imul, 1) := by decide +kernel
theorem dX7_offerTo_139 : decode cX7_offerTo 139 = .ok (.isub, 1) := by decide +kernel
theorem dX7_offerTo_140 : decode cX7_offerTo 140 = .ok (.putfield 118, 3) := by decide +kernel
theorem dX7_offerTo_143 : decode cX7_offerTo 143 = .ok (.aload_n 1, 1) := by decide +kernel
theorem dX7_offerTo_144 : decode cX7_offerTo 144 = .ok (.getfield 35, 3) := by decide +kernel
theorem dX7_offerTo_147 : decode cX7_offerTo 147 = .ok (.aload_n 0, 1) := by decide +kernel
theorem dX7_offerTo_148 : decode cX7_offerTo 148 = .ok (.getfield 20, 3) := by decide +kernel
theorem dX7_offerTo_151 : decode cX7_offerTo 151 = .ok (.invokevirtual 121, 3) := by decide +kernel
theorem dX7_offerTo_154 : decode cX7_offerTo 154 = .ok (.return_, 1) := by decide +kernel
theorem dX7_startsOnSound_0 : decode cX7_startsOnSound 0 = .ok (.lload_n 0, 1) := by decide +kernel
theorem dX7_startsOnSound_1 : decode cX7_startsOnSound 1 = .ok (.lstore 6, 2) := by decide +kernel
theorem dX7_startsOnSound_3 : decode cX7_startsOnSound 3 = .ok (.lload 4, 2) := by decide +kernel
theorem dX7_startsOnSound_5 : decode cX7_startsOnSound 5 = .ok (.lstore 8, 2) := by decide +kernel
theorem dX7_startsOnSound_7 : decode cX7_startsOnSound 7 = .ok (.iconst 0, 1) := by decide +kernel
theorem dX7_startsOnSound_8 : decode cX7_startsOnSound 8 = .ok (.istore 10, 2) := by decide +kernel
theorem dX7_startsOnSound_10 : decode cX7_startsOnSound 10 = .ok (.iload 10, 2) := by decide +kernel
theorem dX7_startsOnSound_12 : decode cX7_startsOnSound 12 = .ok (.bipush 36, 2) := by decide +kernel
theorem dX7_startsOnSound_14 : decode cX7_startsOnSound 14 = .ok (.if_icmp .ge 50, 3) := by decide +kernel
theorem dX7_startsOnSound_17 : decode cX7_startsOnSound 17 = .ok (.lload 8, 2) := by decide +kernel
theorem dX7_startsOnSound_19 : decode cX7_startsOnSound 19 = .ok (.lconst 0, 1) := by decide +kernel
theorem dX7_startsOnSound_20 : decode cX7_startsOnSound 20 = .ok (.lcmp, 1) := by decide +kernel
theorem dX7_startsOnSound_21 : decode cX7_startsOnSound 21 = .ok (.ifCond .eq 43, 3) := by decide +kernel
theorem dX7_startsOnSound_24 : decode cX7_startsOnSound 24 = .ok (.lload 6, 2) := by decide +kernel
theorem dX7_startsOnSound_26 : decode cX7_startsOnSound 26 = .ok (.lconst 0, 1) := by decide +kernel
theorem dX7_startsOnSound_27 : decode cX7_startsOnSound 27 = .ok (.lcmp, 1) := by decide +kernel
theorem dX7_startsOnSound_28 : decode cX7_startsOnSound 28 = .ok (.ifCond .eq 36, 3) := by decide +kernel
theorem dX7_startsOnSound_31 : decode cX7_startsOnSound 31 = .ok (.lload 6, 2) := by decide +kernel
theorem dX7_startsOnSound_33 : decode cX7_startsOnSound 33 = .ok (.lload_n 2, 1) := by decide +kernel
theorem dX7_startsOnSound_34 : decode cX7_startsOnSound 34 = .ok (.lload 8, 2) := by decide +kernel
theorem dX7_startsOnSound_36 : decode cX7_startsOnSound 36 = .ok (.lload 8, 2) := by decide +kernel
theorem dX7_startsOnSound_38 : decode cX7_startsOnSound 38 = .ok (.lneg, 1) := by decide +kernel
theorem dX7_startsOnSound_39 : decode cX7_startsOnSound 39 = .ok (.land, 1) := by decide +kernel
theorem dX7_startsOnSound_40 : decode cX7_startsOnSound 40 = .ok (.lconst 1, 1) := by decide +kernel
theorem dX7_startsOnSound_41 : decode cX7_startsOnSound 41 = .ok (.lsub, 1) := by decide +kernel
theorem dX7_startsOnSound_42 : decode cX7_startsOnSound 42 = .ok (.invokestatic 170, 3) := by decide +kernel
theorem dX7_startsOnSound_45 : decode cX7_startsOnSound 45 = .ok (.lushr, 1) := by decide +kernel
theorem dX7_startsOnSound_46 : decode cX7_startsOnSound 46 = .ok (.land, 1) := by decide +kernel
theorem dX7_startsOnSound_47 : decode cX7_startsOnSound 47 = .ok (.lstore 6, 2) := by decide +kernel
theorem dX7_startsOnSound_49 : decode cX7_startsOnSound 49 = .ok (.lload 8, 2) := by decide +kernel
theorem dX7_startsOnSound_51 : decode cX7_startsOnSound 51 = .ok (.lload 8, 2) := by decide +kernel
theorem dX7_startsOnSound_53 : decode cX7_startsOnSound 53 = .ok (.lconst 1, 1) := by decide +kernel
theorem dX7_startsOnSound_54 : decode cX7_startsOnSound 54 = .ok (.lsub, 1) := by decide +kernel
theorem dX7_startsOnSound_55 : decode cX7_startsOnSound 55 = .ok (.land, 1) := by decide +kernel
theorem dX7_startsOnSound_56 : decode cX7_startsOnSound 56 = .ok (.lstore 8, 2) := by decide +kernel
theorem dX7_startsOnSound_58 : decode cX7_startsOnSound 58 = .ok (.iinc 10 1, 3) := by decide +kernel
theorem dX7_startsOnSound_61 : decode cX7_startsOnSound 61 = .ok (.goto (-51), 3) := by decide +kernel
theorem dX7_startsOnSound_64 : decode cX7_startsOnSound 64 = .ok (.lload 6, 2) := by decide +kernel
theorem dX7_startsOnSound_66 : decode cX7_startsOnSound 66 = .ok (.lreturn, 1) := by decide +kernel
theorem dX7_startsInRow_0 : decode cX7_startsInRow 0 = .ok (.lload 4, 2) := by decide +kernel
theorem dX7_startsInRow_2 : decode cX7_startsInRow 2 = .ok (.lstore 6, 2) := by decide +kernel
theorem dX7_startsInRow_4 : decode cX7_startsInRow 4 = .ok (.iconst 0, 1) := by decide +kernel
theorem dX7_startsInRow_5 : decode cX7_startsInRow 5 = .ok (.istore 8, 2) := by decide +kernel
theorem dX7_startsInRow_7 : decode cX7_startsInRow 7 = .ok (.iload 8, 2) := by decide +kernel
theorem dX7_startsInRow_9 : decode cX7_startsInRow 9 = .ok (.aload_n 0, 1) := by decide +kernel
theorem dX7_startsInRow_10 : decode cX7_startsInRow 10 = .ok (.getfield 28, 3) := by decide +kernel
theorem dX7_startsInRow_13 : decode cX7_startsInRow 13 = .ok (.iconst 2, 1) := by decide +kernel
theorem dX7_startsInRow_14 : decode cX7_startsInRow 14 = .ok (.iaload, 1) := by decide +kernel
theorem dX7_startsInRow_15 : decode cX7_startsInRow 15 = .ok (.if_icmp .ge 42, 3) := by decide +kernel
theorem dX7_startsInRow_18 : decode cX7_startsInRow 18 = .ok (.iload_n 3, 1) := by decide +kernel
theorem dX7_startsInRow_19 : decode cX7_startsInRow 19 = .ok (.iload 8, 2) := by decide +kernel
theorem dX7_startsInRow_21 : decode cX7_startsInRow 21 = .ok (.iadd, 1) := by decide +kernel
theorem dX7_startsInRow_22 : decode cX7_startsInRow 22 = .ok (.bipush 6, 2) := by decide +kernel
theorem dX7_startsInRow_24 : decode cX7_startsInRow 24 = .ok (.if_icmp .ge 33, 3) := by decide +kernel
theorem dX7_startsInRow_27 : decode cX7_startsInRow 27 = .ok (.lload 6, 2) := by decide +kernel
theorem dX7_startsInRow_29 : decode cX7_startsInRow 29 = .ok (.lconst 0, 1) := by decide +kernel
theorem dX7_startsInRow_30 : decode cX7_startsInRow 30 = .ok (.lcmp, 1) := by decide +kernel
theorem dX7_startsInRow_31 : decode cX7_startsInRow 31 = .ok (.ifCond .eq 26, 3) := by decide +kernel
theorem dX7_startsInRow_34 : decode cX7_startsInRow 34 = .ok (.lload 6, 2) := by decide +kernel
theorem dX7_startsInRow_36 : decode cX7_startsInRow 36 = .ok (.aload_n 1, 1) := by decide +kernel
theorem dX7_startsInRow_37 : decode cX7_startsInRow 37 = .ok (.iload_n 3, 1) := by decide +kernel
theorem dX7_startsInRow_38 : decode cX7_startsInRow 38 = .ok (.iload 8, 2) := by decide +kernel
theorem dX7_startsInRow_40 : decode cX7_startsInRow 40 = .ok (.iadd, 1) := by decide +kernel
theorem dX7_startsInRow_41 : decode cX7_startsInRow 41 = .ok (.laload, 1) := by decide +kernel
theorem dX7_startsInRow_42 : decode cX7_startsInRow 42 = .ok (.aload_n 2, 1) := by decide +kernel
theorem dX7_startsInRow_43 : decode cX7_startsInRow 43 = .ok (.iload 8, 2) := by decide +kernel
theorem dX7_startsInRow_45 : decode cX7_startsInRow 45 = .ok (.laload, 1) := by decide +kernel
theorem dX7_startsInRow_46 : decode cX7_startsInRow 46 = .ok (.invokestatic 166, 3) := by decide +kernel
theorem dX7_startsInRow_49 : decode cX7_startsInRow 49 = .ok (.lstore 6, 2) := by decide +kernel
theorem dX7_startsInRow_51 : decode cX7_startsInRow 51 = .ok (.iinc 8 1, 3) := by decide +kernel
theorem dX7_startsInRow_54 : decode cX7_startsInRow 54 = .ok (.goto (-47), 3) := by decide +kernel
theorem dX7_startsInRow_57 : decode cX7_startsInRow 57 = .ok (.lload 6, 2) := by decide +kernel
theorem dX7_startsInRow_59 : decode cX7_startsInRow 59 = .ok (.lreturn, 1) := by decide +kernel
theorem dX7_search_0 : decode cX7_search 0 = .ok (.iconst 0, 1) := by decide +kernel
theorem dX7_search_1 : decode cX7_search 1 = .ok (.istore 5, 2) := by decide +kernel
theorem dX7_search_3 : decode cX7_search 3 = .ok (.iload 5, 2) := by decide +kernel
theorem dX7_search_5 : decode cX7_search 5 = .ok (.iconst 3, 1) := by decide +kernel
theorem dX7_search_6 : decode cX7_search 6 = .ok (.if_icmp .ge 34, 3) := by decide +kernel
theorem dX7_search_9 : decode cX7_search 9 = .ok (.aload_n 0, 1) := by decide +kernel
theorem dX7_search_10 : decode cX7_search 10 = .ok (.getfield 28, 3) := by decide +kernel
theorem dX7_search_13 : decode cX7_search 13 = .ok (.iload 5, 2) := by decide +kernel
theorem dX7_search_15 : decode cX7_search 15 = .ok (.iload_n 3, 1) := by decide +kernel
theorem dX7_search_16 : decode cX7_search 16 = .ok (.aload_n 2, 1) := by decide +kernel
theorem dX7_search_17 : decode cX7_search 17 = .ok (.getfield 153, 3) := by decide +kernel
theorem dX7_search_20 : decode cX7_search 20 = .ok (.getstatic 109, 3) := by decide +kernel
theorem dX7_search_23 : decode cX7_search 23 = .ok (.iconst 3, 1) := by decide +kernel
theorem dX7_search_24 : decode cX7_search 24 = .ok (.iload 4, 2) := by decide +kernel
theorem dX7_search_26 : decode cX7_search 26 = .ok (.imul, 1) := by decide +kernel
theorem dX7_search_27 : decode cX7_search 27 = .ok (.iload 5, 2) := by decide +kernel
theorem dX7_search_29 : decode cX7_search 29 = .ok (.iadd, 1) := by decide +kernel
theorem dX7_search_30 : decode cX7_search 30 = .ok (.iaload, 1) := by decide +kernel
theorem dX7_search_31 : decode cX7_search 31 = .ok (.iaload, 1) := by decide +kernel
theorem dX7_search_32 : decode cX7_search 32 = .ok (.imul, 1) := by decide +kernel
theorem dX7_search_33 : decode cX7_search 33 = .ok (.iastore, 1) := by decide +kernel
theorem dX7_search_34 : decode cX7_search 34 = .ok (.iinc 5 1, 3) := by decide +kernel
theorem dX7_search_37 : decode cX7_search 37 = .ok (.goto (-34), 3) := by decide +kernel
theorem dX7_search_40 : decode cX7_search 40 = .ok (.iconst 0, 1) := by decide +kernel
theorem dX7_search_41 : decode cX7_search 41 = .ok (.bipush 6, 2) := by decide +kernel
theorem dX7_search_43 : decode cX7_search 43 = .ok (.aload_n 0, 1) := by decide +kernel
theorem dX7_search_44 : decode cX7_search 44 = .ok (.getfield 28, 3) := by decide +kernel
theorem dX7_search_47 : decode cX7_search 47 = .ok (.iconst 0, 1) := by decide +kernel
theorem dX7_search_48 : decode cX7_search 48 = .ok (.iaload, 1) := by decide +kernel
theorem dX7_search_49 : decode cX7_search 49 = .ok (.isub, 1) := by decide +kernel
theorem dX7_search_50 : decode cX7_search 50 = .ok (.iconst 0, 1) := by decide +kernel
theorem dX7_search_51 : decode cX7_search 51 = .ok (.bipush 6, 2) := by decide +kernel
theorem dX7_search_53 : decode cX7_search 53 = .ok (.aload_n 0, 1) := by decide +kernel
theorem dX7_search_54 : decode cX7_search 54 = .ok (.getfield 28, 3) := by decide +kernel
theorem dX7_search_57 : decode cX7_search 57 = .ok (.iconst 1, 1) := by decide +kernel
theorem dX7_search_58 : decode cX7_search 58 = .ok (.iaload, 1) := by decide +kernel
theorem dX7_search_59 : decode cX7_search 59 = .ok (.isub, 1) := by decide +kernel
theorem dX7_search_60 : decode cX7_search 60 = .ok (.invokestatic 136, 3) := by decide +kernel
theorem dX7_search_63 : decode cX7_search 63 = .ok (.lstore 5, 2) := by decide +kernel
theorem dX7_search_65 : decode cX7_search 65 = .ok (.aload_n 2, 1) := by decide +kernel
theorem dX7_search_66 : decode cX7_search 66 = .ok (.getfield 154, 3) := by decide +kernel
theorem dX7_search_69 : decode cX7_search 69 = .ok (.iload_n 3, 1) := by decide +kernel
theorem dX7_search_70 : decode cX7_search 70 = .ok (.iload 4, 2) := by decide +kernel
theorem dX7_search_72 : decode cX7_search 72 = .ok (.invokestatic 158, 3) := by decide +kernel
theorem dX7_search_75 : decode cX7_search 75 = .ok (.aaload, 1) := by decide +kernel
theorem dX7_search_76 : decode cX7_search 76 = .ok (.astore 7, 2) := by decide +kernel
theorem dX7_search_78 : decode cX7_search 78 = .ok (.iconst 0, 1) := by decide +kernel
theorem dX7_search_79 : decode cX7_search 79 = .ok (.istore 8, 2) := by decide +kernel
theorem dX7_search_81 : decode cX7_search 81 = .ok (.iconst 0, 1) := by decide +kernel
theorem dX7_search_82 : decode cX7_search 82 = .ok (.istore 9, 2) := by decide +kernel
theorem dX7_search_84 : decode cX7_search 84 = .ok (.iload 9, 2) := by decide +kernel
theorem dX7_search_86 : decode cX7_search 86 = .ok (.bipush 6, 2) := by decide +kernel
theorem dX7_search_88 : decode cX7_search 88 = .ok (.if_icmp .ge 69, 3) := by decide +kernel
theorem dX7_search_91 : decode cX7_search 91 = .ok (.aload_n 0, 1) := by decide +kernel
theorem dX7_search_92 : decode cX7_search 92 = .ok (.getfield 24, 3) := by decide +kernel
theorem dX7_search_95 : decode cX7_search 95 = .ok (.iload 9, 2) := by decide +kernel
theorem dX7_search_97 : decode cX7_search 97 = .ok (.iload 9, 2) := by decide +kernel
theorem dX7_search_99 : decode cX7_search 99 = .ok (.aload_n 0, 1) := by decide +kernel
theorem dX7_search_100 : decode cX7_search 100 = .ok (.getfield 28, 3) := by decide +kernel
theorem dX7_search_103 : decode cX7_search 103 = .ok (.iconst 2, 1) := by decide +kernel
theorem dX7_search_104 : decode cX7_search 104 = .ok (.iaload, 1) := by decide +kernel
theorem dX7_search_105 : decode cX7_search 105 = .ok (.iadd, 1) := by decide +kernel
theorem dX7_search_106 : decode cX7_search 106 = .ok (.bipush 6, 2) := by decide +kernel
theorem dX7_search_108 : decode cX7_search 108 = .ok (.if_icmp .gt 17, 3) := by decide +kernel
theorem dX7_search_111 : decode cX7_search 111 = .ok (.aload_n 0, 1) := by decide +kernel
theorem dX7_search_112 : decode cX7_search 112 = .ok (.aload_n 1, 1) := by decide +kernel
theorem dX7_search_113 : decode cX7_search 113 = .ok (.aload 7, 2) := by decide +kernel
theorem dX7_search_115 : decode cX7_search 115 = .ok (.iload 9, 2) := by decide +kernel
theorem dX7_search_117 : decode cX7_search 117 = .ok (.lload 5, 2) := by decide +kernel
theorem dX7_search_119 : decode cX7_search 119 = .ok (.invokevirtual 162, 3) := by decide +kernel
theorem dX7_search_122 : decode cX7_search 122 = .ok (.goto 4, 3) := by decide +kernel
theorem dX7_search_125 : decode cX7_search 125 = .ok (.lconst 0, 1) := by decide +kernel
theorem dX7_search_126 : decode cX7_search 126 = .ok (.lastore, 1) := by decide +kernel
theorem dX7_search_127 : decode cX7_search 127 = .ok (.iload 8, 2) := by decide +kernel
theorem dX7_search_129 : decode cX7_search 129 = .ok (.ifCond .ne 15, 3) := by decide +kernel
theorem dX7_search_132 : decode cX7_search 132 = .ok (.aload_n 0, 1) := by decide +kernel
theorem dX7_search_133 : decode cX7_search 133 = .ok (.getfield 24, 3) := by decide +kernel
theorem dX7_search_136 : decode cX7_search 136 = .ok (.iload 9, 2) := by decide +kernel
theorem dX7_search_138 : decode cX7_search 138 = .ok (.laload, 1) := by decide +kernel
theorem dX7_search_139 : decode cX7_search 139 = .ok (.lconst 0, 1) := by decide +kernel
theorem dX7_search_140 : decode cX7_search 140 = .ok (.lcmp, 1) := by decide +kernel
theorem dX7_search_141 : decode cX7_search 141 = .ok (.ifCond .eq 7, 3) := by decide +kernel
theorem dX7_search_144 : decode cX7_search 144 = .ok (.iconst 1, 1) := by decide +kernel
theorem dX7_search_145 : decode cX7_search 145 = .ok (.goto 4, 3) := by decide +kernel
theorem dX7_search_148 : decode cX7_search 148 = .ok (.iconst 0, 1) := by decide +kernel
theorem dX7_search_149 : decode cX7_search 149 = .ok (.istore 8, 2) := by decide +kernel
theorem dX7_search_151 : decode cX7_search 151 = .ok (.iinc 9 1, 3) := by decide +kernel
theorem dX7_search_154 : decode cX7_search 154 = .ok (.goto (-70), 3) := by decide +kernel
theorem dX7_search_157 : decode cX7_search 157 = .ok (.iload 8, 2) := by decide +kernel
theorem dX7_search_159 : decode cX7_search 159 = .ok (.ireturn, 1) := by decide +kernel
theorem dX7_offerWays_0 : decode cX7_offerWays 0 = .ok (.iconst 0, 1) := by decide +kernel
theorem dX7_offerWays_1 : decode cX7_offerWays 1 = .ok (.istore_n 3, 1) := by decide +kernel
theorem dX7_offerWays_2 : decode cX7_offerWays 2 = .ok (.iload_n 3, 1) := by decide +kernel
theorem dX7_offerWays_3 : decode cX7_offerWays 3 = .ok (.bipush 6, 2) := by decide +kernel
theorem dX7_offerWays_5 : decode cX7_offerWays 5 = .ok (.if_icmp .ge 75, 3) := by decide +kernel
theorem dX7_offerWays_8 : decode cX7_offerWays 8 = .ok (.aload_n 0, 1) := by decide +kernel
theorem dX7_offerWays_9 : decode cX7_offerWays 9 = .ok (.invokevirtual 82, 3) := by decide +kernel
theorem dX7_offerWays_12 : decode cX7_offerWays 12 = .ok (.ifCond .eq 68, 3) := by decide +kernel
theorem dX7_offerWays_15 : decode cX7_offerWays 15 = .ok (.aload_n 0, 1) := by decide +kernel
theorem dX7_offerWays_16 : decode cX7_offerWays 16 = .ok (.getfield 20, 3) := by decide +kernel
theorem dX7_offerWays_19 : decode cX7_offerWays 19 = .ok (.iload_n 3, 1) := by decide +kernel
theorem dX7_offerWays_20 : decode cX7_offerWays 20 = .ok (.putfield 86, 3) := by decide +kernel
theorem dX7_offerWays_23 : decode cX7_offerWays 23 = .ok (.aload_n 0, 1) := by decide +kernel
theorem dX7_offerWays_24 : decode cX7_offerWays 24 = .ok (.aload_n 1, 1) := by decide +kernel
theorem dX7_offerWays_25 : decode cX7_offerWays 25 = .ok (.getfield 89, 3) := by decide +kernel
theorem dX7_offerWays_28 : decode cX7_offerWays 28 = .ok (.aload_n 2, 1) := by decide +kernel
theorem dX7_offerWays_29 : decode cX7_offerWays 29 = .ok (.aload_n 0, 1) := by decide +kernel
theorem dX7_offerWays_30 : decode cX7_offerWays 30 = .ok (.getfield 20, 3) := by decide +kernel
theorem dX7_offerWays_33 : decode cX7_offerWays 33 = .ok (.getfield 60, 3) := by decide +kernel
theorem dX7_offerWays_36 : decode cX7_offerWays 36 = .ok (.iload_n 3, 1) := by decide +kernel
theorem dX7_offerWays_37 : decode cX7_offerWays 37 = .ok (.invokevirtual 94, 3) := by decide +kernel
theorem dX7_offerWays_40 : decode cX7_offerWays 40 = .ok (.ifCond .eq 34, 3) := by decide +kernel
theorem dX7_offerWays_43 : decode cX7_offerWays 43 = .ok (.iconst 0, 1) := by decide +kernel
theorem dX7_offerWays_44 : decode cX7_offerWays 44 = .ok (.istore 4, 2) := by decide +kernel
theorem dX7_offerWays_46 : decode cX7_offerWays 46 = .ok (.iload 4, 2) := by decide +kernel
theorem dX7_offerWays_48 : decode cX7_offerWays 48 = .ok (.aload_n 0, 1) := by decide +kernel
theorem dX7_offerWays_49 : decode cX7_offerWays 49 = .ok (.getfield 13, 3) := by decide +kernel
theorem dX7_offerWays_52 : decode cX7_offerWays 52 = .ok (.arraylength, 1) := by decide +kernel
theorem dX7_offerWays_53 : decode cX7_offerWays 53 = .ok (.if_icmp .ge 21, 3) := by decide +kernel
theorem dX7_offerWays_56 : decode cX7_offerWays 56 = .ok (.aload_n 0, 1) := by decide +kernel
theorem dX7_offerWays_57 : decode cX7_offerWays 57 = .ok (.aload_n 0, 1) := by decide +kernel
theorem dX7_offerWays_58 : decode cX7_offerWays 58 = .ok (.getfield 13, 3) := by decide +kernel
theorem dX7_offerWays_61 : decode cX7_offerWays 61 = .ok (.iload 4, 2) := by decide +kernel
theorem dX7_offerWays_63 : decode cX7_offerWays 63 = .ok (.aaload, 1) := by decide +kernel
theorem dX7_offerWays_64 : decode cX7_offerWays 64 = .ok (.aload_n 2, 1) := by decide +kernel
theorem dX7_offerWays_65 : decode cX7_offerWays 65 = .ok (.invokevirtual 98, 3) := by decide +kernel
theorem dX7_offerWays_68 : decode cX7_offerWays 68 = .ok (.iinc 4 1, 3) := by decide +kernel
theorem dX7_offerWays_71 : decode cX7_offerWays 71 = .ok (.goto (-25), 3) := by decide +kernel
theorem dX7_offerWays_74 : decode cX7_offerWays 74 = .ok (.iinc 3 1, 3) := by decide +kernel
theorem dX7_offerWays_77 : decode cX7_offerWays 77 = .ok (.goto (-75), 3) := by decide +kernel
theorem dX7_offerWays_80 : decode cX7_offerWays 80 = .ok (.return_, 1) := by decide +kernel
theorem dX7_findBest_0 : decode cX7_findBest 0 = .ok (.iconst 0, 1) := by decide +kernel
theorem dX7_findBest_1 : decode cX7_findBest 1 = .ok (.istore 4, 2) := by decide +kernel
theorem dX7_findBest_3 : decode cX7_findBest 3 = .ok (.iload 4, 2) := by decide +kernel
theorem dX7_findBest_5 : decode cX7_findBest 5 = .ok (.aload_n 0, 1) := by decide +kernel
theorem dX7_findBest_6 : decode cX7_findBest 6 = .ok (.getfield 13, 3) := by decide +kernel
theorem dX7_findBest_9 : decode cX7_findBest 9 = .ok (.arraylength, 1) := by decide +kernel
theorem dX7_findBest_10 : decode cX7_findBest 10 = .ok (.if_icmp .ge 23, 3) := by decide +kernel
theorem dX7_findBest_13 : decode cX7_findBest 13 = .ok (.aload_n 0, 1) := by decide +kernel
theorem dX7_findBest_14 : decode cX7_findBest 14 = .ok (.getfield 13, 3) := by decide +kernel
theorem dX7_findBest_17 : decode cX7_findBest 17 = .ok (.iload 4, 2) := by decide +kernel
theorem dX7_findBest_19 : decode cX7_findBest 19 = .ok (.aaload, 1) := by decide +kernel
theorem dX7_findBest_20 : decode cX7_findBest 20 = .ok (.getfield 35, 3) := by decide +kernel
theorem dX7_findBest_23 : decode cX7_findBest 23 = .ok (.iconst 0, 1) := by decide +kernel
theorem dX7_findBest_24 : decode cX7_findBest 24 = .ok (.putfield 38, 3) := by decide +kernel
theorem dX7_findBest_27 : decode cX7_findBest 27 = .ok (.iinc 4 1, 3) := by decide +kernel
theorem dX7_findBest_30 : decode cX7_findBest 30 = .ok (.goto (-27), 3) := by decide +kernel
theorem dX7_findBest_33 : decode cX7_findBest 33 = .ok (.iconst 0, 1) := by decide +kernel
theorem dX7_findBest_34 : decode cX7_findBest 34 = .ok (.istore 4, 2) := by decide +kernel
theorem dX7_findBest_36 : decode cX7_findBest 36 = .ok (.iload 4, 2) := by decide +kernel
theorem dX7_findBest_38 : decode cX7_findBest 38 = .ok (.aload_n 2, 1) := by decide +kernel
theorem dX7_findBest_39 : decode cX7_findBest 39 = .ok (.invokevirtual 42, 3) := by decide +kernel
theorem dX7_findBest_42 : decode cX7_findBest 42 = .ok (.if_icmp .ge 102, 3) := by decide +kernel
theorem dX7_findBest_45 : decode cX7_findBest 45 = .ok (.aload_n 2, 1) := by decide +kernel
theorem dX7_findBest_46 : decode cX7_findBest 46 = .ok (.iload 4, 2) := by decide +kernel
theorem dX7_findBest_48 : decode cX7_findBest 48 = .ok (.invokevirtual 48, 3) := by decide +kernel
theorem dX7_findBest_51 : decode cX7_findBest 51 = .ok (.checkcast 52, 3) := by decide +kernel
theorem dX7_findBest_54 : decode cX7_findBest 54 = .ok (.astore 5, 2) := by decide +kernel
theorem dX7_findBest_56 : decode cX7_findBest 56 = .ok (.aload_n 0, 1) := by decide +kernel
theorem dX7_findBest_57 : decode cX7_findBest 57 = .ok (.getfield 20, 3) := by decide +kernel
theorem dX7_findBest_60 : decode cX7_findBest 60 = .ok (.iload 4, 2) := by decide +kernel
theorem dX7_findBest_62 : decode cX7_findBest 62 = .ok (.putfield 54, 3) := by decide +kernel
theorem dX7_findBest_65 : decode cX7_findBest 65 = .ok (.aload 5, 2) := by decide +kernel
theorem dX7_findBest_67 : decode cX7_findBest 67 = .ok (.getfield 57, 3) := by decide +kernel
theorem dX7_findBest_70 : decode cX7_findBest 70 = .ok (.istore 6, 2) := by decide +kernel
theorem dX7_findBest_72 : decode cX7_findBest 72 = .ok (.iload 6, 2) := by decide +kernel
theorem dX7_findBest_74 : decode cX7_findBest 74 = .ok (.ifCond .le 64, 3) := by decide +kernel
theorem dX7_findBest_77 : decode cX7_findBest 77 = .ok (.aload_n 0, 1) := by decide +kernel
theorem dX7_findBest_78 : decode cX7_findBest 78 = .ok (.getfield 20, 3) := by decide +kernel
theorem dX7_findBest_81 : decode cX7_findBest 81 = .ok (.iload 6, 2) := by decide +kernel
theorem dX7_findBest_83 : decode cX7_findBest 83 = .ok (.putfield 60, 3) := by decide +kernel
theorem dX7_findBest_86 : decode cX7_findBest 86 = .ok (.aload_n 0, 1) := by decide +kernel
theorem dX7_findBest_87 : decode cX7_findBest 87 = .ok (.getfield 20, 3) := by decide +kernel
theorem dX7_findBest_90 : decode cX7_findBest 90 = .ok (.aload 5, 2) := by decide +kernel
theorem dX7_findBest_92 : decode cX7_findBest 92 = .ok (.getfield 62, 3) := by decide +kernel
theorem dX7_findBest_95 : decode cX7_findBest 95 = .ok (.iload 6, 2) := by decide +kernel
theorem dX7_findBest_97 : decode cX7_findBest 97 = .ok (.imul, 1) := by decide +kernel
theorem dX7_findBest_98 : decode cX7_findBest 98 = .ok (.iload 6, 2) := by decide +kernel
theorem dX7_findBest_100 : decode cX7_findBest 100 = .ok (.imul, 1) := by decide +kernel
theorem dX7_findBest_101 : decode cX7_findBest 101 = .ok (.iload 6, 2) := by decide +kernel
theorem dX7_findBest_103 : decode cX7_findBest 103 = .ok (.imul, 1) := by decide +kernel
theorem dX7_findBest_104 : decode cX7_findBest 104 = .ok (.putfield 65, 3) := by decide +kernel
theorem dX7_findBest_107 : decode cX7_findBest 107 = .ok (.aload_n 0, 1) := by decide +kernel
theorem dX7_findBest_108 : decode cX7_findBest 108 = .ok (.getfield 20, 3) := by decide +kernel
theorem dX7_findBest_111 : decode cX7_findBest 111 = .ok (.aload_n 3, 1) := by decide +kernel
theorem dX7_findBest_112 : decode cX7_findBest 112 = .ok (.aload_n 0, 1) := by decide +kernel
theorem dX7_findBest_113 : decode cX7_findBest 113 = .ok (.getfield 20, 3) := by decide +kernel
theorem dX7_findBest_116 : decode cX7_findBest 116 = .ok (.getfield 65, 3) := by decide +kernel
theorem dX7_findBest_119 : decode cX7_findBest 119 = .ok (.invokevirtual 68, 3) := by decide +kernel
theorem dX7_findBest_122 : decode cX7_findBest 122 = .ok (.putfield 38, 3) := by decide +kernel
theorem dX7_findBest_125 : decode cX7_findBest 125 = .ok (.aload_n 0, 1) := by decide +kernel
theorem dX7_findBest_126 : decode cX7_findBest 126 = .ok (.aload_n 1, 1) := by decide +kernel
theorem dX7_findBest_127 : decode cX7_findBest 127 = .ok (.aload 5, 2) := by decide +kernel
theorem dX7_findBest_129 : decode cX7_findBest 129 = .ok (.invokevirtual 74, 3) := by decide +kernel
theorem dX7_findBest_132 : decode cX7_findBest 132 = .ok (.iinc 6 (-1), 3) := by decide +kernel
theorem dX7_findBest_135 : decode cX7_findBest 135 = .ok (.goto (-63), 3) := by decide +kernel
theorem dX7_findBest_138 : decode cX7_findBest 138 = .ok (.iinc 4 1, 3) := by decide +kernel
theorem dX7_findBest_141 : decode cX7_findBest 141 = .ok (.goto (-105), 3) := by decide +kernel
theorem dX7_findBest_144 : decode cX7_findBest 144 = .ok (.aload_n 0, 1) := by decide +kernel
theorem dX7_findBest_145 : decode cX7_findBest 145 = .ok (.aload_n 1, 1) := by decide +kernel
theorem dX7_findBest_146 : decode cX7_findBest 146 = .ok (.invokevirtual 78, 3) := by decide +kernel
theorem dX7_findBest_149 : decode cX7_findBest 149 = .ok (.return_, 1) := by decide +kernel
theorem dX8_init_0 : decode cX8_init 0 = .ok (.aload_n 0, 1) := by decide +kernel
theorem dX8_init_1 : decode cX8_init 1 = .ok (.invokespecial 3, 3) := by decide +kernel
theorem dX8_init_4 : decode cX8_init 4 = .ok (.aload_n 0, 1) := by decide +kernel
theorem dX8_init_5 : decode cX8_init 5 = .ok (.iconst 0, 1) := by decide +kernel
theorem dX8_init_6 : decode cX8_init 6 = .ok (.putfield 9, 3) := by decide +kernel
theorem dX8_init_9 : decode cX8_init 9 = .ok (.aload_n 0, 1) := by decide +kernel
theorem dX8_init_10 : decode cX8_init 10 = .ok (.iconst (-1), 1) := by decide +kernel
theorem dX8_init_11 : decode cX8_init 11 = .ok (.putfield 15, 3) := by decide +kernel
theorem dX8_init_14 : decode cX8_init 14 = .ok (.aload_n 0, 1) := by decide +kernel
theorem dX8_init_15 : decode cX8_init 15 = .ok (.iconst (-1), 1) := by decide +kernel
theorem dX8_init_16 : decode cX8_init 16 = .ok (.putfield 19, 3) := by decide +kernel
theorem dX8_init_19 : decode cX8_init 19 = .ok (.aload_n 0, 1) := by decide +kernel
theorem dX8_init_20 : decode cX8_init 20 = .ok (.iconst (-1), 1) := by decide +kernel
theorem dX8_init_21 : decode cX8_init 21 = .ok (.putfield 22, 3) := by decide +kernel
theorem dX8_init_24 : decode cX8_init 24 = .ok (.aload_n 0, 1) := by decide +kernel
theorem dX8_init_25 : decode cX8_init 25 = .ok (.iconst 0, 1) := by decide +kernel
theorem dX8_init_26 : decode cX8_init 26 = .ok (.putfield 25, 3) := by decide +kernel
theorem dX8_init_29 : decode cX8_init 29 = .ok (.aload_n 0, 1) := by decide +kernel
theorem dX8_init_30 : decode cX8_init 30 = .ok (.bipush 8, 2) := by decide +kernel
theorem dX8_init_32 : decode cX8_init 32 = .ok (.newarray .int, 2) := by decide +kernel
theorem dX8_init_34 : decode cX8_init 34 = .ok (.putfield 28, 3) := by decide +kernel
theorem dX8_init_37 : decode cX8_init 37 = .ok (.aload_n 0, 1) := by decide +kernel
theorem dX8_init_38 : decode cX8_init 38 = .ok (.bipush 8, 2) := by decide +kernel
theorem dX8_init_40 : decode cX8_init 40 = .ok (.newarray .int, 2) := by decide +kernel
theorem dX8_init_42 : decode cX8_init 42 = .ok (.putfield 32, 3) := by decide +kernel
theorem dX8_init_45 : decode cX8_init 45 = .ok (.aload_n 0, 1) := by decide +kernel
theorem dX8_init_46 : decode cX8_init 46 = .ok (.iconst 0, 1) := by decide +kernel
theorem dX8_init_47 : decode cX8_init 47 = .ok (.putfield 35, 3) := by decide +kernel
theorem dX8_init_50 : decode cX8_init 50 = .ok (.aload_n 0, 1) := by decide +kernel
theorem dX8_init_51 : decode cX8_init 51 = .ok (.iconst 0, 1) := by decide +kernel
theorem dX8_init_52 : decode cX8_init 52 = .ok (.putfield 38, 3) := by decide +kernel
theorem dX8_init_55 : decode cX8_init 55 = .ok (.aload_n 0, 1) := by decide +kernel
theorem dX8_init_56 : decode cX8_init 56 = .ok (.bipush 8, 2) := by decide +kernel
theorem dX8_init_58 : decode cX8_init 58 = .ok (.newarray .int, 2) := by decide +kernel
theorem dX8_init_60 : decode cX8_init 60 = .ok (.putfield 41, 3) := by decide +kernel
theorem dX8_init_63 : decode cX8_init 63 = .ok (.aload_n 0, 1) := by decide +kernel
theorem dX8_init_64 : decode cX8_init 64 = .ok (.iload_n 1, 1) := by decide +kernel
theorem dX8_init_65 : decode cX8_init 65 = .ok (.putfield 44, 3) := by decide +kernel
theorem dX8_init_68 : decode cX8_init 68 = .ok (.aload_n 0, 1) := by decide +kernel
theorem dX8_init_69 : decode cX8_init 69 = .ok (.aload_n 2, 1) := by decide +kernel
theorem dX8_init_70 : decode cX8_init 70 = .ok (.getfield 47, 3) := by decide +kernel
theorem dX8_init_73 : decode cX8_init 73 = .ok (.putfield 52, 3) := by decide +kernel
theorem dX8_init_76 : decode cX8_init 76 = .ok (.aload_n 0, 1) := by decide +kernel
theorem dX8_init_77 : decode cX8_init 77 = .ok (.sipush 1000, 3) := by decide +kernel
theorem dX8_init_80 : decode cX8_init 80 = .ok (.aload_n 2, 1) := by decide +kernel
theorem dX8_init_81 : decode cX8_init 81 = .ok (.getfield 53, 3) := by decide +kernel
theorem dX8_init_84 : decode cX8_init 84 = .ok (.imul, 1) := by decide +kernel
theorem dX8_init_85 : decode cX8_init 85 = .ok (.putfield 56, 3) := by decide +kernel
theorem dX8_init_88 : decode cX8_init 88 = .ok (.return_, 1) := by decide +kernel
theorem dX8_grind_0 : decode cX8_grind 0 = .ok (.iconst 0, 1) := by decide +kernel
theorem dX8_grind_1 : decode cX8_grind 1 = .ok (.istore_n 1, 1) := by decide +kernel
theorem dX8_grind_2 : decode cX8_grind 2 = .ok (.iload_n 1, 1) := by decide +kernel
theorem dX8_grind_3 : decode cX8_grind 3 = .ok (.aload_n 0, 1) := by decide +kernel
theorem dX8_grind_4 : decode cX8_grind 4 = .ok (.getfield 25, 3) := by decide +kernel
theorem dX8_grind_7 : decode cX8_grind 7 = .ok (.if_icmp .ge 53, 3) := by decide +kernel
theorem dX8_grind_10 : decode cX8_grind 10 = .ok (.iload_n 1, 1) := by decide +kernel
theorem dX8_grind_11 : decode cX8_grind 11 = .ok (.bipush 8, 2) := by decide +kernel
theorem dX8_grind_13 : decode cX8_grind 13 = .ok (.if_icmp .ge 47, 3) := by decide +kernel
theorem dX8_grind_16 : decode cX8_grind 16 = .ok (.aload_n 0, 1) := by decide +kernel
theorem dX8_grind_17 : decode cX8_grind 17 = .ok (.getfield 32, 3) := by decide +kernel
theorem dX8_grind_20 : decode cX8_grind 20 = .ok (.aload_n 0, 1) := by decide +kernel
theorem dX8_grind_21 : decode cX8_grind 21 = .ok (.getfield 41, 3) := by decide +kernel
theorem dX8_grind_24 : decode cX8_grind 24 = .ok (.iload_n 1, 1) := by decide +kernel
theorem dX8_grind_25 : decode cX8_grind 25 = .ok (.iaload, 1) := by decide +kernel
theorem dX8_grind_26 : decode cX8_grind 26 = .ok (.iaload, 1) := by decide +kernel
theorem dX8_grind_27 : decode cX8_grind 27 = .ok (.bipush 10, 2) := by decide +kernel
theorem dX8_grind_29 : decode cX8_grind 29 = .ok (.iadd, 1) := by decide +kernel
theorem dX8_grind_30 : decode cX8_grind 30 = .ok (.istore_n 2, 1) := by decide +kernel
theorem dX8_grind_31 : decode cX8_grind 31 = .ok (.aload_n 0, 1) := by decide +kernel
theorem dX8_grind_32 : decode cX8_grind 32 = .ok (.dup, 1) := by decide +kernel
theorem dX8_grind_33 : decode cX8_grind 33 = .ok (.getfield 56, 3) := by decide +kernel
theorem dX8_grind_36 : decode cX8_grind 36 = .ok (.aload_n 0, 1) := by decide +kernel
theorem dX8_grind_37 : decode cX8_grind 37 = .ok (.getfield 56, 3) := by decide +kernel
theorem dX8_grind_40 : decode cX8_grind 40 = .ok (.iload_n 2, 1) := by decide +kernel
theorem dX8_grind_41 : decode cX8_grind 41 = .ok (.imul, 1) := by decide +kernel
theorem dX8_grind_42 : decode cX8_grind 42 = .ok (.sipush 999, 3) := by decide +kernel
theorem dX8_grind_45 : decode cX8_grind 45 = .ok (.iadd, 1) := by decide +kernel
theorem dX8_grind_46 : decode cX8_grind 46 = .ok (.sipush 1000, 3) := by decide +kernel
theorem dX8_grind_49 : decode cX8_grind 49 = .ok (.idiv, 1) := by decide +kernel
theorem dX8_grind_50 : decode cX8_grind 50 = .ok (.isub, 1) := by decide +kernel
theorem dX8_grind_51 : decode cX8_grind 51 = .ok (.putfield 56, 3) := by decide +kernel
theorem dX8_grind_54 : decode cX8_grind 54 = .ok (.iinc 1 1, 3) := by decide +kernel
theorem dX8_grind_57 : decode cX8_grind 57 = .ok (.goto (-55), 3) := by decide +kernel
theorem dX8_grind_60 : decode cX8_grind 60 = .ok (.aload_n 0, 1) := by decide +kernel
theorem dX8_grind_61 : decode cX8_grind 61 = .ok (.iconst 1, 1) := by decide +kernel
theorem dX8_grind_62 : decode cX8_grind 62 = .ok (.putfield 9, 3) := by decide +kernel
theorem dX8_grind_65 : decode cX8_grind 65 = .ok (.return_, 1) := by decide +kernel
theorem dX8_tell_0 : decode cX8_tell 0 = .ok (.iload_n 1, 1) := by decide +kernel
theorem dX8_tell_1 : decode cX8_tell 1 = .ok (.tableswitch 77 0 5 #[39, 44, 49, 54, 67, 72], 39) := by decide +kernel
theorem dX8_tell_40 : decode cX8_tell 40 = .ok (.aload_n 0, 1) := by decide +kernel
theorem dX8_tell_41 : decode cX8_tell 41 = .ok (.getfield 56, 3) := by decide +kernel
theorem dX8_tell_44 : decode cX8_tell 44 = .ok (.ireturn, 1) := by decide +kernel
theorem dX8_tell_45 : decode cX8_tell 45 = .ok (.aload_n 0, 1) := by decide +kernel
theorem dX8_tell_46 : decode cX8_tell 46 = .ok (.getfield 44, 3) := by decide +kernel
theorem dX8_tell_49 : decode cX8_tell 49 = .ok (.ireturn, 1) := by decide +kernel
theorem dX8_tell_50 : decode cX8_tell 50 = .ok (.aload_n 0, 1) := by decide +kernel
theorem dX8_tell_51 : decode cX8_tell 51 = .ok (.getfield 52, 3) := by decide +kernel
theorem dX8_tell_54 : decode cX8_tell 54 = .ok (.ireturn, 1) := by decide +kernel
theorem dX8_tell_55 : decode cX8_tell 55 = .ok (.aload_n 0, 1) := by decide +kernel
theorem dX8_tell_56 : decode cX8_tell 56 = .ok (.getfield 9, 3) := by decide +kernel
theorem dX8_tell_59 : decode cX8_tell 59 = .ok (.ifCond .eq 7, 3) := by decide +kernel
theorem dX8_tell_62 : decode cX8_tell 62 = .ok (.iconst 1, 1) := by decide +kernel
theorem dX8_tell_63 : decode cX8_tell 63 = .ok (.goto 4, 3) := by decide +kernel
theorem dX8_tell_66 : decode cX8_tell 66 = .ok (.iconst 0, 1) := by decide +kernel
theorem dX8_tell_67 : decode cX8_tell 67 = .ok (.ireturn, 1) := by decide +kernel
theorem dX8_tell_68 : decode cX8_tell 68 = .ok (.aload_n 0, 1) := by decide +kernel
theorem dX8_tell_69 : decode cX8_tell 69 = .ok (.getfield 15, 3) := by decide +kernel
theorem dX8_tell_72 : decode cX8_tell 72 = .ok (.ireturn, 1) := by decide +kernel
theorem dX8_tell_73 : decode cX8_tell 73 = .ok (.aload_n 0, 1) := by decide +kernel
theorem dX8_tell_74 : decode cX8_tell 74 = .ok (.getfield 19, 3) := by decide +kernel
theorem dX8_tell_77 : decode cX8_tell 77 = .ok (.ireturn, 1) := by decide +kernel
theorem dX8_tell_78 : decode cX8_tell 78 = .ok (.aload_n 0, 1) := by decide +kernel
theorem dX8_tell_79 : decode cX8_tell 79 = .ok (.getfield 22, 3) := by decide +kernel
theorem dX8_tell_82 : decode cX8_tell 82 = .ok (.ireturn, 1) := by decide +kernel
def F_X6_init (a0 : Nat) (h0 : PM) : Option (Unit × PM) := nA h0 ((a0 + 1)) 21 6 fun h1 => pR h1 a0 7 0 ((a0 + 1)) fun h2 => pZ h2 a0 7 1 0 fun h3 => pI h3 a0 7 2 (-1) fun h4 => pI h4 a0 7 3 (-1) fun h5 => pI h5 a0 7 4 0 fun h6 => pI h6 a0 7 5 0 fun h7 => nO h7 ((a0 + 2)) 2 fun h8 => cl (F_X1_init ((a0 + 2)) h8) fun r9 h10 => pR h10 a0 7 6 ((a0 + 2)) fun h12 => nO h12 ((a0 + 3)) 2 fun h13 => cl (F_X1_init ((a0 + 3)) h13) fun r14 h15 => pR h15 a0 7 7 ((a0 + 3)) fun h17 => some ((), h17)
set_option maxRecDepth 100000 in
set_option maxHeartbeats 4000000 in
theorem S_X6_init {a0 : Nat} {h0 : PM} (r : Unit) (h' : PM) (hF : F_X6_init a0 h0 = some (r, h')) : CN yX6_init cX6_init 1 none 3 22 2 [.ref a0] h0 none h' := by
  obtain ⟨X, eX⟩ : ∃ X, X = (r, h') := ⟨_, rfl⟩
  rw [← eX] at hF
  have e1 : r = X.1 := by rw [eX]
  have e2 : h' = X.2 := by rw [eX]
  rw [e2]
  clear eX e1 e2
  unfold F_X6_init at hF
  refine CN_of (by decide) (fun ρ => Nat.le_of_ble_eq_true rfl) rfl ?_
  intro p l e s m args below meth c D cy base ρ hT C V hr hnm
  refine r_aload_n C dX6_init_0 rfl 0 rfl ?_
  refine r_objInit C dX6_init_1 ml_X6_3 im_obj cd_obj (by decide) (Nat.le_of_ble_eq_true rfl) ?_
  refine r_aload_n C dX6_init_4 rfl 0 rfl ?_
  refine r_bipush (v := 6) C dX6_init_5 (by decide) ?_
  refine k_newj (N := 6) (a := (a0 + 1)) C dX6_init_7 ac_long (by decide) (by decide) (by decide) hF (fun h1 hF => ?_)
  refine k_pR C dX6_init_9 fd_X6_9 (fun _ => hnm) (by decide) hF (fun h2 hF => ?_)
  refine r_aload_n C dX6_init_12 rfl 0 rfl ?_
  refine r_iconst (v := 0) C dX6_init_13 (by decide) ?_
  refine k_pZ C dX6_init_14 fd_X6_15 (fun z => by cases z) (by decide) hF (fun h3 hF => ?_)
  refine r_aload_n C dX6_init_17 rfl 0 rfl ?_
  refine r_iconst (v := (-1)) C dX6_init_18 (by decide) ?_
  refine k_pI C dX6_init_19 fd_X6_19 (fun z => by cases z) (by decide) hF (fun h4 hF => ?_)
  refine r_aload_n C dX6_init_22 rfl 0 rfl ?_
  refine r_iconst (v := (-1)) C dX6_init_23 (by decide) ?_
  refine k_pI C dX6_init_24 fd_X6_23 (fun z => by cases z) (by decide) hF (fun h5 hF => ?_)
  refine r_aload_n C dX6_init_27 rfl 0 rfl ?_
  refine r_iconst (v := 0) C dX6_init_28 (by decide) ?_
  refine k_pI C dX6_init_29 fd_X6_26 (fun z => by cases z) (by decide) hF (fun h6 hF => ?_)
  refine r_aload_n C dX6_init_32 rfl 0 rfl ?_
  refine r_iconst (v := 0) C dX6_init_33 (by decide) ?_
  refine k_pI C dX6_init_34 fd_X6_29 (fun z => by cases z) (by decide) hF (fun h7 hF => ?_)
  refine r_aload_n C dX6_init_37 rfl 0 rfl ?_
  refine k_new (a := (a0 + 2)) C dX6_init_38 cls_2 cn_X6_32 in_X1 ii_X1 (by decide) (by decide) hF (fun h8 hF => ?_)
  refine r_dup C dX6_init_41 rfl ?_
  obtain ⟨r9, h10, hc11, hF⟩ := cl_some hF
  refine r_callIN (As := []) C dX6_init_42 V hT cal_X1_init mn_X6_34 im_X1_init rfl (by decide) rfl rfl (Nat.le_of_ble_eq_true rfl) (by decide) (by decide) (S_X1_init _ _ hc11) ?_
  refine k_pR C dX6_init_45 fd_X6_35 (fun _ => hnm) (by decide) hF (fun h12 hF => ?_)
  refine r_aload_n C dX6_init_48 rfl 0 rfl ?_
  refine k_new (a := (a0 + 3)) C dX6_init_49 cls_2 cn_X6_32 in_X1 ii_X1 (by decide) (by decide) hF (fun h13 hF => ?_)
  refine r_dup C dX6_init_52 rfl ?_
  obtain ⟨r14, h15, hc16, hF⟩ := cl_some hF
  refine r_callIN (As := []) C dX6_init_53 V hT cal_X1_init mn_X6_34 im_X1_init rfl (by decide) rfl rfl (Nat.le_of_ble_eq_true rfl) (by decide) (by decide) (S_X1_init _ _ hc16) ?_
  refine k_pR C dX6_init_56 fd_X6_39 (fun _ => hnm) (by decide) hF (fun h17 hF => ?_)
  exact k_vret C dX6_init_59 hr (by decide) (by decide) hF
def F_X6_takeWhole (a0 : Nat) (a1 : Nat) (h0 : PM) : Option (Unit × PM) := pI h0 a0 7 2 (-1) fun h1 => pI h1 a0 7 3 (-1) fun h2 => gR h2 a1 5 3 fun x3 => gI h2 x3 2 0 fun x4 => pI h2 a0 7 4 x4 fun h5 => gI h5 a0 7 4 fun x6 => jn (fun (s7 : Int32) (s8 : Nat) (h9 : PM) => pI h9 s8 7 5 s7 fun h10 => gR h10 a0 7 6 fun x11 => gR h10 a1 5 3 fun x12 => tst h10 x11 2 (cl (F_X1_take x11 x12 h10) fun r13 h14 => some ((), h14))) fun k34 => if x6 ≤ 0 then (k34 0 a0 h5) else (k34 1 a0 h5)
set_option maxRecDepth 100000 in
set_option maxHeartbeats 4000000 in
theorem S_X6_takeWhole {a0 : Nat} {a1 : Nat} {h0 : PM} (r : Unit) (h' : PM) (hF : F_X6_takeWhole a0 a1 h0 = some (r, h')) : CN yX6_takeWhole cX6_takeWhole 2 none 0 0 1 [.ref a0, .ref a1] h0 none h' := by
  obtain ⟨X, eX⟩ : ∃ X, X = (r, h') := ⟨_, rfl⟩
  rw [← eX] at hF
  have e1 : r = X.1 := by rw [eX]
  have e2 : h' = X.2 := by rw [eX]
  rw [e2]
  clear eX e1 e2
  unfold F_X6_takeWhole at hF
  refine CN_of (by decide) (fun ρ => Nat.le_of_ble_eq_true rfl) rfl ?_
  intro p l e s m args below meth c D cy base ρ hT C V hr hnm
  refine r_aload_n C dX6_takeWhole_0 rfl 0 rfl ?_
  refine r_iconst (v := (-1)) C dX6_takeWhole_1 (by decide) ?_
  refine k_pI C dX6_takeWhole_2 fd_X6_19 (fun z => by cases z) (by decide) hF (fun h1 hF => ?_)
  refine r_aload_n C dX6_takeWhole_5 rfl 0 rfl ?_
  refine r_iconst (v := (-1)) C dX6_takeWhole_6 (by decide) ?_
  refine k_pI C dX6_takeWhole_7 fd_X6_23 (fun z => by cases z) (by decide) hF (fun h2 hF => ?_)
  refine r_aload_n C dX6_takeWhole_10 rfl 0 rfl ?_
  refine r_aload_n C dX6_takeWhole_11 rfl 1 rfl ?_
  refine k_gRr C dX6_takeWhole_12 fr_X6_42 (by decide) hF (fun x3 hF => ?_)
  refine k_gI C dX6_takeWhole_15 fd_X6_47 (by decide) hF (fun x4 hF => ?_)
  refine k_pI C dX6_takeWhole_18 fd_X6_26 (fun z => by cases z) (by decide) hF (fun h5 hF => ?_)
  refine r_aload_n C dX6_takeWhole_21 rfl 0 rfl ?_
  refine r_aload_n C dX6_takeWhole_22 rfl 0 rfl ?_
  refine k_gI C dX6_takeWhole_23 fd_X6_26 (by decide) hF (fun x6 hF => ?_)
  obtain ⟨k34, ek34, hF⟩ := jn_some hF
  have Jk34 : ∀ (s7 : Int32) (s8 : Nat) (h9 : PM), k34 s7 s8 h9 = some X → WP p l e (rmN 0 0 1) s m args below meth c D cy base ρ h0 0 0 2 (MQ below (QR D cy base ρ h0 none X.2) args s 0 0 (fun q => base ≤ q)) 34 [(0, .ref a0), (1, .ref a1)] [.int s7, .ref s8] h9 := by
    intro s7 s8 h9 hF
    rw [ek34] at hF
    refine k_pI C dX6_takeWhole_34 fd_X6_29 (fun z => by cases z) (by decide) hF (fun h10 hF => ?_)
    refine r_aload_n C dX6_takeWhole_37 rfl 0 rfl ?_
    refine k_gR C dX6_takeWhole_38 fd_X6_35 (by decide) hF (fun x11 hF => ?_)
    refine r_aload_n C dX6_takeWhole_41 rfl 1 rfl ?_
    refine k_gRr C dX6_takeWhole_42 fr_X6_42 (by decide) hF (fun x12 hF => ?_)
    obtain ⟨ht, hF⟩ := tst_some hF
    obtain ⟨r13, h14, hc15, hF⟩ := cl_some hF
    refine r_callV (As := [.ref x12]) C dX6_takeWhole_45 V hT cal_X1_take cls_2 ml_X6_48 im_X1_take se_X1_take ht (by decide) rfl rfl (Nat.le_of_ble_eq_true rfl) (by decide) (by decide) (S_X1_take _ _ hc15) ?_
    exact k_vret C dX6_takeWhole_48 hr (by decide) (by decide) hF
  refine r_if_le (tgt := 33) C dX6_takeWhole_26 (by decide) hF (fun hF => ?_) (fun hF => ?_)
  · refine r_iconst (v := 0) C dX6_takeWhole_33 (by decide) ?_
    exact Jk34 _ _ _ hF
  · refine r_iconst (v := 1) C dX6_takeWhole_29 (by decide) ?_
    refine r_goto (tgt := 34) C dX6_takeWhole_30 (by decide) ?_
    exact Jk34 _ _ _ hF
def F_X6_takeSawn (a0 : Nat) (a1 : Nat) (a2 : Nat) (h0 : PM) : Option (Unit × PM) := gI h0 a1 5 0 fun x1 => pI h0 a0 7 2 x1 fun h2 => gI h2 a1 5 2 fun x3 => pI h2 a0 7 3 x3 fun h4 => gR h4 a1 5 3 fun x5 => gI h4 x5 2 0 fun x6 => gR h4 a2 5 3 fun x7 => gI h4 x7 2 0 fun x8 => pI h4 a0 7 4 (x6 + x8) fun h9 => pI h9 a0 7 5 2 fun h10 => gR h10 a0 7 6 fun x11 => gR h10 a1 5 3 fun x12 => tst h10 x11 2 (cl (F_X1_take x11 x12 h10) fun r13 h14 => gR h14 a0 7 7 fun x16 => gR h14 a2 5 3 fun x17 => tst h14 x16 2 (cl (F_X1_take x16 x17 h14) fun r18 h19 => some ((), h19)))
set_option maxRecDepth 100000 in
set_option maxHeartbeats 4000000 in
theorem S_X6_takeSawn {a0 : Nat} {a1 : Nat} {a2 : Nat} {h0 : PM} (r : Unit) (h' : PM) (hF : F_X6_takeSawn a0 a1 a2 h0 = some (r, h')) : CN yX6_takeSawn cX6_takeSawn 3 none 0 0 1 [.ref a0, .ref a1, .ref a2] h0 none h' := by
  obtain ⟨X, eX⟩ : ∃ X, X = (r, h') := ⟨_, rfl⟩
  rw [← eX] at hF
  have e1 : r = X.1 := by rw [eX]
  have e2 : h' = X.2 := by rw [eX]
  rw [e2]
  clear eX e1 e2
  unfold F_X6_takeSawn at hF
  refine CN_of (by decide) (fun ρ => Nat.le_of_ble_eq_true rfl) rfl ?_
  intro p l e s m args below meth c D cy base ρ hT C V hr hnm
  refine r_aload_n C dX6_takeSawn_0 rfl 0 rfl ?_
  refine r_aload_n C dX6_takeSawn_1 rfl 1 rfl ?_
  refine k_gIr C dX6_takeSawn_2 fr_X6_52 (by decide) hF (fun x1 hF => ?_)
  refine k_pI C dX6_takeSawn_5 fd_X6_19 (fun z => by cases z) (by decide) hF (fun h2 hF => ?_)
  refine r_aload_n C dX6_takeSawn_8 rfl 0 rfl ?_
  refine r_aload_n C dX6_takeSawn_9 rfl 1 rfl ?_
  refine k_gIr C dX6_takeSawn_10 fr_X6_53 (by decide) hF (fun x3 hF => ?_)
  refine k_pI C dX6_takeSawn_13 fd_X6_23 (fun z => by cases z) (by decide) hF (fun h4 hF => ?_)
  refine r_aload_n C dX6_takeSawn_16 rfl 0 rfl ?_
  refine r_aload_n C dX6_takeSawn_17 rfl 1 rfl ?_
  refine k_gRr C dX6_takeSawn_18 fr_X6_42 (by decide) hF (fun x5 hF => ?_)
  refine k_gI C dX6_takeSawn_21 fd_X6_47 (by decide) hF (fun x6 hF => ?_)
  refine r_aload_n C dX6_takeSawn_24 rfl 2 rfl ?_
  refine k_gRr C dX6_takeSawn_25 fr_X6_42 (by decide) hF (fun x7 hF => ?_)
  refine k_gI C dX6_takeSawn_28 fd_X6_47 (by decide) hF (fun x8 hF => ?_)
  refine r_iadd C dX6_takeSawn_31 ?_
  refine k_pI C dX6_takeSawn_32 fd_X6_26 (fun z => by cases z) (by decide) hF (fun h9 hF => ?_)
  refine r_aload_n C dX6_takeSawn_35 rfl 0 rfl ?_
  refine r_iconst (v := 2) C dX6_takeSawn_36 (by decide) ?_
  refine k_pI C dX6_takeSawn_37 fd_X6_29 (fun z => by cases z) (by decide) hF (fun h10 hF => ?_)
  refine r_aload_n C dX6_takeSawn_40 rfl 0 rfl ?_
  refine k_gR C dX6_takeSawn_41 fd_X6_35 (by decide) hF (fun x11 hF => ?_)
  refine r_aload_n C dX6_takeSawn_44 rfl 1 rfl ?_
  refine k_gRr C dX6_takeSawn_45 fr_X6_42 (by decide) hF (fun x12 hF => ?_)
  obtain ⟨ht, hF⟩ := tst_some hF
  obtain ⟨r13, h14, hc15, hF⟩ := cl_some hF
  refine r_callV (As := [.ref x12]) C dX6_takeSawn_48 V hT cal_X1_take cls_2 ml_X6_48 im_X1_take se_X1_take ht (by decide) rfl rfl (Nat.le_of_ble_eq_true rfl) (by decide) (by decide) (S_X1_take _ _ hc15) ?_
  refine r_aload_n C dX6_takeSawn_51 rfl 0 rfl ?_
  refine k_gR C dX6_takeSawn_52 fd_X6_39 (by decide) hF (fun x16 hF => ?_)
  refine r_aload_n C dX6_takeSawn_55 rfl 2 rfl ?_
  refine k_gRr C dX6_takeSawn_56 fr_X6_42 (by decide) hF (fun x17 hF => ?_)
  obtain ⟨ht, hF⟩ := tst_some hF
  obtain ⟨r18, h19, hc20, hF⟩ := cl_some hF
  refine r_callV (As := [.ref x17]) C dX6_takeSawn_59 V hT cal_X1_take cls_2 ml_X6_48 im_X1_take se_X1_take ht (by decide) rfl rfl (Nat.le_of_ble_eq_true rfl) (by decide) (by decide) (S_X1_take _ _ hc20) ?_
  exact k_vret C dX6_takeSawn_62 hr (by decide) (by decide) hF
def F_X7_init_L58 (c0 : Nat) (k123 : PM → Option (Unit × PM)) : Nat → Int32 → PM → Option (Unit × PM)
  | 0, _, _ => none
  | fu + 1, v19, h20 => if 12 ≤ v19 then (k123 h20) else (dv 4 (lt_ (v19 / 4) fun x21 => dv 4 (lt_ ((v19 - v19 / 4 * 4) + 1) fun x22 => gR h20 c0 8 0 fun x23 => nO h20 ((c0 + 1000 + 2 * (2 * Int32.toNatClampNeg v19 + 1))) 5 fun h24 => cl (F_X4_init ((c0 + 1000 + 2 * (2 * Int32.toNatClampNeg v19 + 1))) x21 0 x22 h24) fun r25 h26 => sR h26 x23 ((2 * v19) + 1) ((c0 + 1000 + 2 * (2 * Int32.toNatClampNeg v19 + 1))) fun h28 => gR h28 c0 8 0 fun x29 => nO h28 ((c0 + 1000 + 2 * (2 * Int32.toNatClampNeg v19 + 2))) 5 fun h30 => cl (F_X4_init ((c0 + 1000 + 2 * (2 * Int32.toNatClampNeg v19 + 2))) x21 (x22 + 1) 6 h30) fun r31 h32 => sR h32 x29 ((2 * v19) + 2) ((c0 + 1000 + 2 * (2 * Int32.toNatClampNeg v19 + 2))) fun h34 => F_X7_init_L58 c0 k123 fu (v19 + 1) h34)))
def F_X7_init (a0 : Nat) (h0 : PM) : Option (Unit × PM) := nA h0 ((a0 + 1)) 24 25 fun h1 => pR h1 a0 8 0 ((a0 + 1)) fun h2 => nO h2 ((a0 + 2)) 2 fun h3 => cl (F_X1_init ((a0 + 2)) h3) fun r4 h5 => pR h5 a0 8 1 ((a0 + 2)) fun h7 => nA h7 ((a0 + 3)) 21 6 fun h8 => pR h8 a0 8 2 ((a0 + 3)) fun h9 => nA h9 ((a0 + 4)) 20 3 fun h10 => pR h10 a0 8 3 ((a0 + 4)) fun h11 => gR h11 a0 8 0 fun x12 => nO h11 ((a0 + 1000)) 5 fun h13 => cl (F_X4_init ((a0 + 1000)) 2 0 6 h13) fun r14 h15 => sR h15 x12 0 ((a0 + 1000)) fun h17 => jn (fun  (h18 : PM) => some ((), h18)) fun k123 => F_X7_init_L58 a0 k123 13 0 h17
set_option maxRecDepth 100000 in
set_option maxHeartbeats 4000000 in
theorem S_X7_init {a0 : Nat} {h0 : PM} (r : Unit) (h' : PM) (hF : F_X7_init a0 h0 = some (r, h')) : CN yX7_init cX7_init 4 none 58 366 3 [.ref a0] h0 none h' := by
  obtain ⟨X, eX⟩ : ∃ X, X = (r, h') := ⟨_, rfl⟩
  rw [← eX] at hF
  have e1 : r = X.1 := by rw [eX]
  have e2 : h' = X.2 := by rw [eX]
  rw [e2]
  clear eX e1 e2
  unfold F_X7_init at hF
  refine CN_of (by first | decide | omega) (fun ρ => Nat.le_of_ble_eq_true rfl) rfl ?_
  intro p l e s m args below meth c D cy base ρ hT C V hr hnm
  refine r_aload_n C dX7_init_0 rfl 0 rfl ?_
  refine r_objInit C dX7_init_1 ml_X7_5 im_obj cd_obj (by first | decide | omega) (Nat.le_of_ble_eq_true rfl) ?_
  refine r_aload_n C dX7_init_4 rfl 0 rfl ?_
  refine r_bipush (v := 25) C dX7_init_5 (by first | decide | omega) ?_
  refine k_anew (N := 25) (a := (a0 + 1)) (t := 24) (t0 := 3) C dX7_init_7 cn_X7_11 V.2.1.2.1 (by first | decide | omega) rfl (Nat.le_of_ble_eq_true rfl) (by first | decide | omega) (by first | decide | omega) hF (fun h1 hF => ?_)
  refine k_pR C dX7_init_10 fd_X7_13 (fun _ => hnm) (by first | decide | omega) hF (fun h2 hF => ?_)
  refine r_aload_n C dX7_init_13 rfl 0 rfl ?_
  refine k_new (a := (a0 + 2)) C dX7_init_14 cls_2 cn_X7_17 in_X1 ii_X1 (by first | decide | omega) (by first | decide | omega) hF (fun h3 hF => ?_)
  refine r_dup C dX7_init_17 rfl ?_
  obtain ⟨r4, h5, hc6, hF⟩ := cl_some hF
  refine r_callIN (As := []) C dX7_init_18 V hT cal_X1_init mn_X7_19 im_X1_init rfl (by first | decide | omega) rfl rfl (Nat.le_of_ble_eq_true rfl) (by first | decide | omega) (by first | decide | omega) (S_X1_init _ _ hc6) ?_
  refine k_pR C dX7_init_21 fd_X7_20 (fun _ => hnm) (by first | decide | omega) hF (fun h7 hF => ?_)
  refine r_aload_n C dX7_init_24 rfl 0 rfl ?_
  refine r_bipush (v := 6) C dX7_init_25 (by first | decide | omega) ?_
  refine k_newj (N := 6) (a := (a0 + 3)) C dX7_init_27 ac_long (by first | decide | omega) (by first | decide | omega) (by first | decide | omega) hF (fun h8 hF => ?_)
  refine k_pR C dX7_init_29 fd_X7_24 (fun _ => hnm) (by first | decide | omega) hF (fun h9 hF => ?_)
  refine r_aload_n C dX7_init_32 rfl 0 rfl ?_
  refine r_iconst (v := 3) C dX7_init_33 (by first | decide | omega) ?_
  refine k_newi (N := 3) (a := (a0 + 4)) C dX7_init_34 ac_int (by first | decide | omega) (by first | decide | omega) (by first | decide | omega) hF (fun h10 hF => ?_)
  refine k_pR C dX7_init_36 fd_X7_28 (fun _ => hnm) (by first | decide | omega) hF (fun h11 hF => ?_)
  refine r_aload_n C dX7_init_39 rfl 0 rfl ?_
  refine k_gR C dX7_init_40 fd_X7_13 (by first | decide | omega) hF (fun x12 hF => ?_)
  refine r_iconst (v := 0) C dX7_init_43 (by first | decide | omega) ?_
  refine k_new (a := (a0 + 1000)) C dX7_init_44 cls_5 cn_X7_11 in_X4 ii_X4 (by first | decide | omega) (by first | decide | omega) hF (fun h13 hF => ?_)
  refine r_dup C dX7_init_47 rfl ?_
  refine r_iconst (v := 2) C dX7_init_48 (by first | decide | omega) ?_
  refine r_iconst (v := 0) C dX7_init_49 (by first | decide | omega) ?_
  refine r_bipush (v := 6) C dX7_init_50 (by first | decide | omega) ?_
  obtain ⟨r14, h15, hc16, hF⟩ := cl_some hF
  refine r_callI (As := [.int 2, .int 0, .int 6]) C dX7_init_52 V hT cal_X4_init ml_X7_32 im_X4_init rfl (by first | decide | omega) rfl rfl (Nat.le_of_ble_eq_true rfl) (by first | decide | omega) (by first | decide | omega) (S_X4_init _ _ hc16) ?_
  refine k_sR C V ca_3 ca_6 ca_8 dX7_init_55 hF (fun h17 hF => ?_)
  refine r_iconst (v := 0) C dX7_init_56 (by first | decide | omega) ?_
  refine r_istore_n C dX7_init_57 rfl (by first | decide | omega) rfl ?_
  obtain ⟨k123, ek123, hF⟩ := jn_some hF
  have Jk123 : ∀  (h18 : PM), k123 h18 = some X → WP p l e (rmN 58 366 3) s m args below meth c D cy base ρ h0 58 366 4 (MQ below (QR D cy base ρ h0 none X.2) args s 58 366 (fun q => base ≤ q)) 123 [] [] h18 := by
    intro h18 hF
    rw [ek123] at hF
    exact k_vret C dX7_init_123 hr (by first | decide | omega) (by first | decide | omega) hF
  have L58 : ∀ (fu : Nat) (v19 : Int32) (h20 : PM), fu ≤ 13 → F_X7_init_L58 a0 k123 fu v19 h20 = some X → WP p l e (rmN 58 366 3) s m args below meth c D cy base ρ h0 (6 + 4 * (13 - fu)) (54 + 24 * (13 - fu)) 4 (MQ below (QR D cy base ρ h0 none X.2) args s 58 366 (fun q => base ≤ q)) 58 [(0, .ref a0), (1, .int v19)] [] h20 := by
    intro fu
    induction fu with
    | zero => intro v19 h20 hfu hF; rw [F_X7_init_L58.eq_1] at hF; cases hF
    | succ fu ih =>
      intro v19 h20 hfu hF
      rw [F_X7_init_L58.eq_2] at hF
      refine r_iload_n C dX7_init_58 rfl 1 rfl ?_
      refine r_bipush (v := 12) C dX7_init_59 (by first | decide | omega) ?_
      refine r_icmp_ge (tgt := 123) C dX7_init_61 (by first | decide | omega) hF (fun hF => ?_) (fun hF => ?_)
      · exact r_sub [] rfl (WP.cnt (by first | decide | omega) (by first | decide | omega) (Jk123  _ hF))
      · refine r_iload_n C dX7_init_64 rfl 1 rfl ?_
        refine r_iconst (v := 4) C dX7_init_65 (by first | decide | omega) ?_
        refine k_idiv C dX7_init_66 hF (fun hF => ?_)
        refine k_lti hF (fun x21 hF => ?_)
        refine r_istore_n C dX7_init_67 rfl (by first | decide | omega) rfl ?_
        refine r_iload_n C dX7_init_68 rfl 2 rfl ?_
        refine r_iconst (v := 4) C dX7_init_69 (by first | decide | omega) ?_
        refine k_irem C dX7_init_70 hF (fun hF => ?_)
        refine r_iconst (v := 1) C dX7_init_71 (by first | decide | omega) ?_
        refine r_iadd C dX7_init_72 ?_
        refine k_lti hF (fun x22 hF => ?_)
        refine r_istore_n C dX7_init_73 rfl (by first | decide | omega) rfl ?_
        refine r_aload_n C dX7_init_74 rfl 2 rfl ?_
        refine k_gR C dX7_init_75 fd_X7_13 (by first | decide | omega) hF (fun x23 hF => ?_)
        refine r_iconst (v := 2) C dX7_init_78 (by first | decide | omega) ?_
        refine r_iload_n C dX7_init_79 rfl 3 rfl ?_
        refine r_imul C dX7_init_80 ?_
        refine r_iconst (v := 1) C dX7_init_81 (by first | decide | omega) ?_
        refine r_iadd C dX7_init_82 ?_
        refine k_new (a := (a0 + 1000 + 2 * (2 * Int32.toNatClampNeg v19 + 1))) C dX7_init_83 cls_5 cn_X7_11 in_X4 ii_X4 (by first | decide | omega) (by first | decide | omega) hF (fun h24 hF => ?_)
        refine r_dup C dX7_init_86 rfl ?_
        refine r_iload_n C dX7_init_87 rfl 1 rfl ?_
        refine r_iconst (v := 0) C dX7_init_88 (by first | decide | omega) ?_
        refine r_iload_n C dX7_init_89 rfl 0 rfl ?_
        obtain ⟨r25, h26, hc27, hF⟩ := cl_some hF
        refine r_callI (As := [.int x21, .int 0, .int x22]) C dX7_init_90 V hT cal_X4_init ml_X7_32 im_X4_init rfl (by first | decide | omega) rfl rfl (Nat.le_of_ble_eq_true rfl) (by first | decide | omega) (by first | decide | omega) (S_X4_init _ _ hc27) ?_
        refine k_sR C V ca_3 ca_6 ca_8 dX7_init_93 hF (fun h28 hF => ?_)
        refine r_aload_n C dX7_init_94 rfl 2 rfl ?_
        refine k_gR C dX7_init_95 fd_X7_13 (by first | decide | omega) hF (fun x29 hF => ?_)
        refine r_iconst (v := 2) C dX7_init_98 (by first | decide | omega) ?_
        refine r_iload_n C dX7_init_99 rfl 3 rfl ?_
        refine r_imul C dX7_init_100 ?_
        refine r_iconst (v := 2) C dX7_init_101 (by first | decide | omega) ?_
        refine r_iadd C dX7_init_102 ?_
        refine k_new (a := (a0 + 1000 + 2 * (2 * Int32.toNatClampNeg v19 + 2))) C dX7_init_103 cls_5 cn_X7_11 in_X4 ii_X4 (by first | decide | omega) (by first | decide | omega) hF (fun h30 hF => ?_)
        refine r_dup C dX7_init_106 rfl ?_
        refine r_iload_n C dX7_init_107 rfl 1 rfl ?_
        refine r_iload_n C dX7_init_108 rfl 0 rfl ?_
        refine r_iconst (v := 1) C dX7_init_109 (by first | decide | omega) ?_
        refine r_iadd C dX7_init_110 ?_
        refine r_bipush (v := 6) C dX7_init_111 (by first | decide | omega) ?_
        obtain ⟨r31, h32, hc33, hF⟩ := cl_some hF
        refine r_callI (As := [.int x21, .int (x22 + 1), .int 6]) C dX7_init_113 V hT cal_X4_init ml_X7_32 im_X4_init rfl (by first | decide | omega) rfl rfl (Nat.le_of_ble_eq_true rfl) (by first | decide | omega) (by first | decide | omega) (S_X4_init _ _ hc33) ?_
        refine k_sR C V ca_3 ca_6 ca_8 dX7_init_116 hF (fun h34 hF => ?_)
        refine r_iinc (v := v19 + 1) C dX7_init_117 3 rfl (congrArg (fun z => v19 + z) (by first | decide | omega)) (by first | decide | omega) rfl ?_
        refine r_goto (tgt := 58) C dX7_init_120 (by first | decide | omega) ?_
        exact r_sub [3, 0] rfl (WP.cnt (by first | decide | omega) (by first | decide | omega) (ih _ _ (by omega) hF))
  exact r_sub [1, 0] rfl (WP.cnt (by first | decide | omega) (by first | decide | omega) (L58 _ _ _ (by first | decide | omega) hF))
def F_X7_choose_L12 (c0 : Nat) (c1 : Nat) (k77 : PM → Option (Unit × PM)) : Nat → Int32 → PM → Option (Unit × PM)
  | 0, _, _ => none
  | fu + 1, v7, h8 => if 12 ≤ v7 then (k77 h8) else (gR h8 c0 8 0 fun x9 => aR h8 x9 ((2 * v7) + 1) fun x10 => gR h8 c0 8 0 fun x11 => aR h8 x11 ((2 * v7) + 2) fun x12 => gR h8 x10 5 3 fun x13 => gI h8 x13 2 0 fun x14 => gR h8 x12 5 3 fun x15 => gI h8 x15 2 0 fun x16 => gI h8 c1 7 4 fun x17 => jn (fun  (h18 : PM) => F_X7_choose_L12 c0 c1 k77 fu (v7 + 1) h18) fun k71 => if (x14 + x16) ≤ x17 then (k71 h8) else (tst h8 c1 7 (cl (F_X6_takeSawn c1 x10 x12 h8) fun r20 h21 => k71 h21)))
def F_X7_choose (a0 : Nat) (a1 : Nat) (h0 : PM) : Option (Unit × PM) := gR h0 a0 8 0 fun x1 => aR h0 x1 0 fun x2 => tst h0 a1 7 (cl (F_X6_takeWhole a1 x2 h0) fun r3 h4 => jn (fun  (h6 : PM) => some ((), h6)) fun k77 => F_X7_choose_L12 a0 a1 k77 LF 0 h4)
set_option maxRecDepth 100000 in
set_option maxHeartbeats 4000000 in
theorem S_X7_choose {a0 : Nat} {a1 : Nat} {h0 : PM} (r : Unit) (h' : PM) (hF : F_X7_choose a0 a1 h0 = some (r, h')) : CN yX7_choose cX7_choose 5 none 0 0 2 [.ref a0, .ref a1] h0 none h' := by
  obtain ⟨X, eX⟩ : ∃ X, X = (r, h') := ⟨_, rfl⟩
  rw [← eX] at hF
  have e1 : r = X.1 := by rw [eX]
  have e2 : h' = X.2 := by rw [eX]
  rw [e2]
  clear eX e1 e2
  unfold F_X7_choose at hF
  refine CN_of (by decide) (fun ρ => Nat.le_of_ble_eq_true rfl) rfl ?_
  intro p l e s m args below meth c D cy base ρ hT C V hr hnm
  refine r_aload_n C dX7_choose_0 rfl 1 rfl ?_
  refine r_aload_n C dX7_choose_1 rfl 0 rfl ?_
  refine k_gR C dX7_choose_2 fd_X7_13 (by decide) hF (fun x1 hF => ?_)
  refine r_iconst (v := 0) C dX7_choose_5 (by decide) ?_
  refine k_aR C dX7_choose_6 hF (fun x2 hF => ?_)
  obtain ⟨ht, hF⟩ := tst_some hF
  obtain ⟨r3, h4, hc5, hF⟩ := cl_some hF
  refine r_callV (As := [.ref x2]) C dX7_choose_7 V hT cal_X6_takeWhole cls_7 ml_X7_144 im_X6_takeWhole se_X6_takeWhole ht (by decide) rfl rfl (Nat.le_of_ble_eq_true rfl) (by decide) (by decide) (S_X6_takeWhole _ _ hc5) ?_
  refine r_iconst (v := 0) C dX7_choose_10 (by decide) ?_
  refine r_istore_n C dX7_choose_11 rfl (by decide) rfl ?_
  obtain ⟨k77, ek77, hF⟩ := jn_some hF
  have Jk77 : ∀  (h6 : PM), k77 h6 = some X → WP p l e (rmN 0 0 2) s m args below meth c D cy base ρ h0 0 0 5 (MQ below (QR D cy base ρ h0 none X.2) args s 0 0 (fun q => base ≤ q)) 77 [] [] h6 := by
    intro h6 hF
    rw [ek77] at hF
    exact k_vret C dX7_choose_77 hr (by decide) (by decide) hF
  have L12 : ∀ (fu : Nat) (v7 : Int32) (h8 : PM), F_X7_choose_L12 a0 a1 k77 fu v7 h8 = some X → WP p l e (rmN 0 0 2) s m args below meth c D cy base ρ h0 0 0 5 (MQ below (QR D cy base ρ h0 none X.2) args s 0 0 (fun q => base ≤ q)) 12 [(0, .ref a0), (1, .ref a1), (2, .int v7)] [] h8 := by
    intro fu
    induction fu with
    | zero => intro v7 h8 hF; rw [F_X7_choose_L12.eq_1] at hF; cases hF
    | succ fu ih =>
      intro v7 h8 hF
      rw [F_X7_choose_L12.eq_2] at hF
      refine r_iload_n C dX7_choose_12 rfl 2 rfl ?_
      refine r_bipush (v := 12) C dX7_choose_13 (by decide) ?_
      refine r_icmp_ge (tgt := 77) C dX7_choose_15 (by decide) hF (fun hF => ?_) (fun hF => ?_)
      · exact r_sub [] rfl (Jk77  _ hF)
      · refine r_aload_n C dX7_choose_18 rfl 0 rfl ?_
        refine k_gR C dX7_choose_19 fd_X7_13 (by decide) hF (fun x9 hF => ?_)
        refine r_iconst (v := 2) C dX7_choose_22 (by decide) ?_
        refine r_iload_n C dX7_choose_23 rfl 2 rfl ?_
        refine r_imul C dX7_choose_24 ?_
        refine r_iconst (v := 1) C dX7_choose_25 (by decide) ?_
        refine r_iadd C dX7_choose_26 ?_
        refine k_aR C dX7_choose_27 hF (fun x10 hF => ?_)
        refine r_astore_n C dX7_choose_28 rfl (by decide) rfl ?_
        refine r_aload_n C dX7_choose_29 rfl 1 rfl ?_
        refine k_gR C dX7_choose_30 fd_X7_13 (by decide) hF (fun x11 hF => ?_)
        refine r_iconst (v := 2) C dX7_choose_33 (by decide) ?_
        refine r_iload_n C dX7_choose_34 rfl 3 rfl ?_
        refine r_imul C dX7_choose_35 ?_
        refine r_iconst (v := 2) C dX7_choose_36 (by decide) ?_
        refine r_iadd C dX7_choose_37 ?_
        refine k_aR C dX7_choose_38 hF (fun x12 hF => ?_)
        refine r_astore C dX7_choose_39 (by decide) rfl ?_
        refine r_aload_n C dX7_choose_41 rfl 1 rfl ?_
        refine k_gRr C dX7_choose_42 fr_X7_35 (by decide) hF (fun x13 hF => ?_)
        refine k_gI C dX7_choose_45 fd_X7_38 (by decide) hF (fun x14 hF => ?_)
        refine r_aload C dX7_choose_48 0 rfl ?_
        refine k_gRr C dX7_choose_50 fr_X7_35 (by decide) hF (fun x15 hF => ?_)
        refine k_gI C dX7_choose_53 fd_X7_38 (by decide) hF (fun x16 hF => ?_)
        refine r_iadd C dX7_choose_56 ?_
        refine r_aload_n C dX7_choose_57 rfl 3 rfl ?_
        refine k_gI C dX7_choose_58 fd_X7_148 (by decide) hF (fun x17 hF => ?_)
        obtain ⟨k71_18, ek71_18, hF⟩ := jn_some hF
        have Jk71_18 : ∀  (h19 : PM), k71_18 h19 = some X → WP p l e (rmN 0 0 2) s m args below meth c D cy base ρ h0 0 0 5 (MQ below (QR D cy base ρ h0 none X.2) args s 0 0 (fun q => base ≤ q)) 71 [(0, .ref a0), (1, .ref a1), (2, .int v7)] [] h19 := by
          intro h19 hF
          rw [ek71_18] at hF
          refine r_iinc (v := v7 + 1) C dX7_choose_71 2 rfl (congrArg (fun z => v7 + z) (by decide)) (by decide) rfl ?_
          refine r_goto (tgt := 12) C dX7_choose_74 (by decide) ?_
          exact r_sub [1, 2, 0] rfl (ih _ _ hF)
        refine r_icmp_le (tgt := 71) C dX7_choose_61 (by decide) hF (fun hF => ?_) (fun hF => ?_)
        · exact r_sub [2, 3, 4] rfl (Jk71_18  _ hF)
        · refine r_aload_n C dX7_choose_64 rfl 3 rfl ?_
          refine r_aload_n C dX7_choose_65 rfl 1 rfl ?_
          refine r_aload C dX7_choose_66 0 rfl ?_
          obtain ⟨ht, hF⟩ := tst_some hF
          obtain ⟨r21, h22, hc23, hF⟩ := cl_some hF
          refine r_callV (As := [.ref x10, .ref x12]) C dX7_choose_68 V hT cal_X6_takeSawn cls_7 ml_X7_149 im_X6_takeSawn se_X6_takeSawn ht (by decide) rfl rfl (Nat.le_of_ble_eq_true rfl) (by decide) (by decide) (S_X6_takeSawn _ _ hc23) ?_
          exact r_sub [2, 3, 4] rfl (Jk71_18  _ hF)
  exact r_sub [1, 2, 0] rfl (L12 _ _ _ hF)
def F_X7_isWanted_L2 (c0 : Nat) (k41 : PM → Option (Int32 × PM)) (k33 : PM → Option (Int32 × PM)) : Nat → Int32 → PM → Option (Int32 × PM)
  | 0, _, _ => none
  | fu + 1, v3, h4 => gR h4 c0 8 0 fun x5 => ln h4 x5 fun x6 => if x6 ≤ v3 then (k41 h4) else (gR h4 c0 8 1 fun x7 => gI h4 x7 2 0 fun x8 => gR h4 c0 8 0 fun x9 => aR h4 x9 v3 fun x10 => gR h4 x10 5 3 fun x11 => gI h4 x11 2 0 fun x12 => if x8 ≤ x12 then (F_X7_isWanted_L2 c0 k41 k33 fu (v3 + 1) h4) else (k33 h4))
def F_X7_isWanted (a0 : Nat) (h0 : PM) : Option (Int32 × PM) := jn (fun  (h1 : PM) => rz 0 h1) fun k41 => jn (fun  (h2 : PM) => rz 1 h2) fun k33 => F_X7_isWanted_L2 a0 k41 k33 LF 0 h0
set_option maxRecDepth 100000 in
set_option maxHeartbeats 4000000 in
theorem S_X7_isWanted {a0 : Nat} {h0 : PM} (r : Int32) (h' : PM) (hF : F_X7_isWanted a0 h0 = some (r, h')) : CN yX7_isWanted cX7_isWanted 2 (some .boolean) 0 0 0 [.ref a0] h0 (some (.int r)) h' := by
  obtain ⟨X, eX⟩ : ∃ X, X = (r, h') := ⟨_, rfl⟩
  rw [← eX] at hF
  have e1 : r = X.1 := by rw [eX]
  have e2 : h' = X.2 := by rw [eX]
  rw [e1, e2]
  clear eX e1 e2
  unfold F_X7_isWanted at hF
  refine CN_of (by decide) (fun ρ => Nat.le_of_ble_eq_true rfl) rfl ?_
  intro p l e s m args below meth c D cy base ρ hT C V hr hnm
  refine r_iconst (v := 0) C dX7_isWanted_0 (by decide) ?_
  refine r_istore_n C dX7_isWanted_1 rfl (by decide) rfl ?_
  obtain ⟨k41, ek41, hF⟩ := jn_some hF
  have Jk41 : ∀  (h1 : PM), k41 h1 = some X → WP p l e (rmN 0 0 0) s m args below meth c D cy base ρ h0 0 0 2 (MQ below (QR D cy base ρ h0 (some (.int X.1)) X.2) args s 0 0 (fun q => base ≤ q)) 41 [] [] h1 := by
    intro h1 hF
    rw [ek41] at hF
    refine r_iconst (v := 0) C dX7_isWanted_41 (by decide) ?_
    exact k_zret C dX7_isWanted_42 hr (by decide) (by decide) hF
  obtain ⟨k33, ek33, hF⟩ := jn_some hF
  have Jk33 : ∀  (h2 : PM), k33 h2 = some X → WP p l e (rmN 0 0 0) s m args below meth c D cy base ρ h0 0 0 2 (MQ below (QR D cy base ρ h0 (some (.int X.1)) X.2) args s 0 0 (fun q => base ≤ q)) 33 [] [] h2 := by
    intro h2 hF
    rw [ek33] at hF
    refine r_iconst (v := 1) C dX7_isWanted_33 (by decide) ?_
    exact k_zret C dX7_isWanted_34 hr (by decide) (by decide) hF
  have L2 : ∀ (fu : Nat) (v3 : Int32) (h4 : PM), F_X7_isWanted_L2 a0 k41 k33 fu v3 h4 = some X → WP p l e (rmN 0 0 0) s m args below meth c D cy base ρ h0 0 0 2 (MQ below (QR D cy base ρ h0 (some (.int X.1)) X.2) args s 0 0 (fun q => base ≤ q)) 2 [(0, .ref a0), (1, .int v3)] [] h4 := by
    intro fu
    induction fu with
    | zero => intro v3 h4 hF; rw [F_X7_isWanted_L2.eq_1] at hF; cases hF
    | succ fu ih =>
      intro v3 h4 hF
      rw [F_X7_isWanted_L2.eq_2] at hF
      refine r_iload_n C dX7_isWanted_2 rfl 1 rfl ?_
      refine r_aload_n C dX7_isWanted_3 rfl 0 rfl ?_
      refine k_gR C dX7_isWanted_4 fd_X7_13 (by decide) hF (fun x5 hF => ?_)
      refine k_ln C dX7_isWanted_7 hF (fun x6 hF => ?_)
      refine r_icmp_ge (tgt := 41) C dX7_isWanted_8 (by decide) hF (fun hF => ?_) (fun hF => ?_)
      · exact r_sub [] rfl (Jk41  _ hF)
      · refine r_aload_n C dX7_isWanted_11 rfl 0 rfl ?_
        refine k_gR C dX7_isWanted_12 fd_X7_20 (by decide) hF (fun x7 hF => ?_)
        refine k_gI C dX7_isWanted_15 fd_X7_38 (by decide) hF (fun x8 hF => ?_)
        refine r_aload_n C dX7_isWanted_18 rfl 0 rfl ?_
        refine k_gR C dX7_isWanted_19 fd_X7_13 (by decide) hF (fun x9 hF => ?_)
        refine r_iload_n C dX7_isWanted_22 rfl 1 rfl ?_
        refine k_aR C dX7_isWanted_23 hF (fun x10 hF => ?_)
        refine k_gRr C dX7_isWanted_24 fr_X7_35 (by decide) hF (fun x11 hF => ?_)
        refine k_gI C dX7_isWanted_27 fd_X7_38 (by decide) hF (fun x12 hF => ?_)
        refine r_icmp_le (tgt := 35) C dX7_isWanted_30 (by decide) hF (fun hF => ?_) (fun hF => ?_)
        · refine r_iinc (v := v3 + 1) C dX7_isWanted_35 1 rfl (congrArg (fun z => v3 + z) (by decide)) (by decide) rfl ?_
          refine r_goto (tgt := 2) C dX7_isWanted_38 (by decide) ?_
          exact r_sub [1, 0] rfl (ih _ _ hF)
        · exact r_sub [] rfl (Jk33  _ hF)
  exact r_sub [1, 0] rfl (L2 _ _ _ hF)
def F_X7_firstWithin_L72 (c0 : Nat) (c1 : Nat) (c2 : Int32) (c3 : Int64) (k154 : PM → Option (Int32 × PM)) (k136 : Int32 → Int64 → PM → Option (Int32 × PM)) : Nat → Int32 → PM → Option (Int32 × PM)
  | 0, _, _ => none
  | fu + 1, v17, h18 => if 6 ≤ v17 then (k154 h18) else (gI h18 c1 5 0 fun x19 => jn (fun (s20 : Int32) (h21 : PM) => jn (fun (s22 : Int64) (h23 : PM) => if (lg_cmp s22 0) = 0 then (F_X7_firstWithin_L72 c0 c1 c2 c3 k154 k136 fu (v17 + 1) h23) else (k136 v17 s22 h23)) fun k127 => if s20 = 0 then (gR h21 c0 8 2 fun x25 => aJ h21 x25 v17 fun x26 => k127 (x26 &&& c3) h21) else (k127 0 h21)) fun k107 => jn (fun  (h27 : PM) => k107 0 h27) fun k106 => if ¬ x19 = 2 then (k106 h18) else (gI h18 c1 5 1 fun x28 => jn (fun  (h29 : PM) => k107 1 h29) fun k102 => if v17 < x28 then (k102 h18) else (if v17 ≤ c2 then (k106 h18) else (k102 h18))))
def F_X7_firstWithin (a0 : Nat) (a1 : Nat) (h0 : PM) : Option (Int32 × PM) := gI h0 a1 5 2 fun x1 => gR h0 a0 8 3 fun x2 => gI h0 a1 5 0 fun x3 => aI h0 x2 x3 fun x4 => lt_ (x1 - x4) fun x5 => gI h0 a1 5 1 fun x6 => if x6 ≤ x5 then (gI h0 a1 5 0 fun x7 => jn (fun (v8 : Int64) (h9 : PM) => jn (fun  (h10 : PM) => some ((-1), h10)) fun k154 => jn (fun (v11 : Int32) (v12 : Int64) (h13 : PM) => cl (F_X11_lowestBit v12 h13) fun r14 h15 => some ((36 * v11) + r14, h15)) fun k136 => F_X7_firstWithin_L72 a0 a1 x5 v8 k154 k136 LF 0 h9) fun k69 => if ¬ x7 = 0 then (gI h0 a1 5 0 fun x34 => if ¬ x34 = 1 then (k69 68719476735 h0) else (gI h0 a1 5 1 fun x35 => cl (F_X3_block 0 5 x35 x5 h0) fun r36 h37 => k69 r36 h37)) else (gI h0 a1 5 1 fun x39 => cl (F_X3_block x39 x5 0 5 h0) fun r40 h41 => k69 r40 h41)) else (some ((-1), h0))
set_option maxRecDepth 100000 in
set_option maxHeartbeats 4000000 in
theorem S_X7_firstWithin {a0 : Nat} {a1 : Nat} {h0 : PM} (r : Int32) (h' : PM) (hF : F_X7_firstWithin a0 a1 h0 = some (r, h')) : CN yX7_firstWithin cX7_firstWithin 9 (some .int) 0 0 2 [.ref a0, .ref a1] h0 (some (.int r)) h' := by
  obtain ⟨X, eX⟩ : ∃ X, X = (r, h') := ⟨_, rfl⟩
  rw [← eX] at hF
  have e1 : r = X.1 := by rw [eX]
  have e2 : h' = X.2 := by rw [eX]
  rw [e1, e2]
  clear eX e1 e2
  unfold F_X7_firstWithin at hF
  refine CN_of (by decide) (fun ρ => Nat.le_of_ble_eq_true rfl) rfl ?_
  intro p l e s m args below meth c D cy base ρ hT C V hr hnm
  refine r_aload_n C dX7_firstWithin_0 rfl 1 rfl ?_
  refine k_gIr C dX7_firstWithin_1 fr_X7_125 (by decide) hF (fun x1 hF => ?_)
  refine r_aload_n C dX7_firstWithin_4 rfl 0 rfl ?_
  refine k_gR C dX7_firstWithin_5 fd_X7_28 (by decide) hF (fun x2 hF => ?_)
  refine r_aload_n C dX7_firstWithin_8 rfl 1 rfl ?_
  refine k_gIr C dX7_firstWithin_9 fr_X7_128 (by decide) hF (fun x3 hF => ?_)
  refine k_aI C dX7_firstWithin_12 hF (fun x4 hF => ?_)
  refine r_isub C dX7_firstWithin_13 ?_
  refine k_lti hF (fun x5 hF => ?_)
  refine r_istore_n C dX7_firstWithin_14 rfl (by decide) rfl ?_
  refine r_iload_n C dX7_firstWithin_15 rfl 0 rfl ?_
  refine r_aload_n C dX7_firstWithin_16 rfl 2 rfl ?_
  refine k_gIr C dX7_firstWithin_17 fr_X7_131 (by decide) hF (fun x6 hF => ?_)
  refine r_icmp_ge (tgt := 25) C dX7_firstWithin_20 (by decide) hF (fun hF => ?_) (fun hF => ?_)
  · refine r_ldc2 C dX7_firstWithin_25 cl_X7_134 ?_
    refine r_lstore_n C dX7_firstWithin_28 rfl (by decide) rfl ?_
    refine r_aload_n C dX7_firstWithin_29 rfl 3 rfl ?_
    refine k_gIr C dX7_firstWithin_30 fr_X7_128 (by decide) hF (fun x7 hF => ?_)
    obtain ⟨k69, ek69, hF⟩ := jn_some hF
    have Jk69 : ∀ (v8 : Int64) (h9 : PM), k69 v8 h9 = some X → WP p l e (rmN 0 0 2) s m args below meth c D cy base ρ h0 0 0 9 (MQ below (QR D cy base ρ h0 (some (.int X.1)) X.2) args s 0 0 (fun q => base ≤ q)) 69 [(0, .ref a0), (1, .ref a1), (2, .int x5), (3, .long v8)] [] h9 := by
      intro v8 h9 hF
      rw [ek69] at hF
      refine r_iconst (v := 0) C dX7_firstWithin_69 (by decide) ?_
      refine r_istore C dX7_firstWithin_70 (by decide) rfl ?_
      obtain ⟨k154, ek154, hF⟩ := jn_some hF
      have Jk154 : ∀  (h10 : PM), k154 h10 = some X → WP p l e (rmN 0 0 2) s m args below meth c D cy base ρ h0 0 0 9 (MQ below (QR D cy base ρ h0 (some (.int X.1)) X.2) args s 0 0 (fun q => base ≤ q)) 154 [] [] h10 := by
        intro h10 hF
        rw [ek154] at hF
        refine r_iconst (v := (-1)) C dX7_firstWithin_154 (by decide) ?_
        exact k_iret C dX7_firstWithin_155 hr (by decide) (by decide) hF
      obtain ⟨k136, ek136, hF⟩ := jn_some hF
      have Jk136 : ∀ (v11 : Int32) (v12 : Int64) (h13 : PM), k136 v11 v12 h13 = some X → WP p l e (rmN 0 0 2) s m args below meth c D cy base ρ h0 0 0 9 (MQ below (QR D cy base ρ h0 (some (.int X.1)) X.2) args s 0 0 (fun q => base ≤ q)) 136 [(5, .int v11), (7, .long v12)] [] h13 := by
        intro v11 v12 h13 hF
        rw [ek136] at hF
        refine r_bipush (v := 36) C dX7_firstWithin_136 (by decide) ?_
        refine r_iload C dX7_firstWithin_138 0 rfl ?_
        refine r_imul C dX7_firstWithin_140 ?_
        refine r_lload C dX7_firstWithin_141 1 rfl ?_
        obtain ⟨r14, h15, hc16, hF⟩ := cl_some hF
        refine r_callSN (As := [.long v12]) C dX7_firstWithin_143 V hT cal_X11_lowestBit mn_X7_140 sm_X11_lowestBit (by decide) rfl rfl (Nat.le_of_ble_eq_true rfl) (by decide) (by decide) (S_X11_lowestBit _ _ hc16) ?_
        refine r_iadd C dX7_firstWithin_146 ?_
        exact k_iret C dX7_firstWithin_147 hr (by decide) (by decide) hF
      have L72 : ∀ (fu : Nat) (v17 : Int32) (h18 : PM), F_X7_firstWithin_L72 a0 a1 x5 v8 k154 k136 fu v17 h18 = some X → WP p l e (rmN 0 0 2) s m args below meth c D cy base ρ h0 0 0 9 (MQ below (QR D cy base ρ h0 (some (.int X.1)) X.2) args s 0 0 (fun q => base ≤ q)) 72 [(0, .ref a0), (1, .ref a1), (2, .int x5), (3, .long v8), (5, .int v17)] [] h18 := by
        intro fu
        induction fu with
        | zero => intro v17 h18 hF; rw [F_X7_firstWithin_L72.eq_1] at hF; cases hF
        | succ fu ih =>
          intro v17 h18 hF
          rw [F_X7_firstWithin_L72.eq_2] at hF
          refine r_iload C dX7_firstWithin_72 4 rfl ?_
          refine r_bipush (v := 6) C dX7_firstWithin_74 (by decide) ?_
          refine r_icmp_ge (tgt := 154) C dX7_firstWithin_76 (by decide) hF (fun hF => ?_) (fun hF => ?_)
          · exact r_sub [] rfl (Jk154  _ hF)
          · refine r_aload_n C dX7_firstWithin_79 rfl 1 rfl ?_
            refine k_gIr C dX7_firstWithin_80 fr_X7_128 (by decide) hF (fun x19 hF => ?_)
            refine r_iconst (v := 2) C dX7_firstWithin_83 (by decide) ?_
            obtain ⟨k107_21, ek107_21, hF⟩ := jn_some hF
            have Jk107_21 : ∀ (s20 : Int32) (h22 : PM), k107_21 s20 h22 = some X → WP p l e (rmN 0 0 2) s m args below meth c D cy base ρ h0 0 0 9 (MQ below (QR D cy base ρ h0 (some (.int X.1)) X.2) args s 0 0 (fun q => base ≤ q)) 107 [(0, .ref a0), (1, .ref a1), (2, .int x5), (3, .long v8), (5, .int v17)] [.int s20] h22 := by
              intro s20 h22 hF
              rw [ek107_21] at hF
              refine r_istore C dX7_firstWithin_107 (by decide) rfl ?_
              refine r_iload C dX7_firstWithin_109 0 rfl ?_
              obtain ⟨k127_24, ek127_24, hF⟩ := jn_some hF
              have Jk127_24 : ∀ (s23 : Int64) (h25 : PM), k127_24 s23 h25 = some X → WP p l e (rmN 0 0 2) s m args below meth c D cy base ρ h0 0 0 9 (MQ below (QR D cy base ρ h0 (some (.int X.1)) X.2) args s 0 0 (fun q => base ≤ q)) 127 [(0, .ref a0), (1, .ref a1), (2, .int x5), (3, .long v8), (5, .int v17)] [.long s23] h25 := by
                intro s23 h25 hF
                rw [ek127_24] at hF
                refine r_lstore C dX7_firstWithin_127 (by decide) rfl ?_
                refine r_lload C dX7_firstWithin_129 0 rfl ?_
                refine r_lconst (v := 0) C dX7_firstWithin_131 (by decide) ?_
                refine r_lcmp C dX7_firstWithin_132 ?_
                refine r_if_eq (tgt := 148) C dX7_firstWithin_133 (by decide) hF (fun hF => ?_) (fun hF => ?_)
                · refine r_iinc (v := v17 + 1) C dX7_firstWithin_148 5 rfl (congrArg (fun z => v17 + z) (by decide)) (by decide) rfl ?_
                  refine r_goto (tgt := 72) C dX7_firstWithin_151 (by decide) ?_
                  exact r_sub [2, 3, 4, 5, 0] rfl (ih _ _ hF)
                · exact r_sub [5, 0] rfl (Jk136 _ _ _ hF)
              refine r_if_eq (tgt := 118) C dX7_firstWithin_111 (by decide) hF (fun hF => ?_) (fun hF => ?_)
              · refine r_aload_n C dX7_firstWithin_118 rfl 1 rfl ?_
                refine k_gR C dX7_firstWithin_119 fd_X7_24 (by decide) hF (fun x27 hF => ?_)
                refine r_iload C dX7_firstWithin_122 5 rfl ?_
                refine k_aJ C dX7_firstWithin_124 hF (fun x28 hF => ?_)
                refine r_lload_n C dX7_firstWithin_125 rfl 4 rfl ?_
                refine r_land C dX7_firstWithin_126 ?_
                exact r_sub [1, 2, 3, 4, 5] rfl (Jk127_24 _ _ hF)
              · refine r_lconst (v := 0) C dX7_firstWithin_114 (by decide) ?_
                refine r_goto (tgt := 127) C dX7_firstWithin_115 (by decide) ?_
                exact r_sub [1, 2, 3, 4, 5] rfl (Jk127_24 _ _ hF)
            obtain ⟨k106_29, ek106_29, hF⟩ := jn_some hF
            have Jk106_29 : ∀  (h30 : PM), k106_29 h30 = some X → WP p l e (rmN 0 0 2) s m args below meth c D cy base ρ h0 0 0 9 (MQ below (QR D cy base ρ h0 (some (.int X.1)) X.2) args s 0 0 (fun q => base ≤ q)) 106 [(0, .ref a0), (1, .ref a1), (2, .int x5), (3, .long v8), (5, .int v17)] [] h30 := by
              intro h30 hF
              rw [ek106_29] at hF
              refine r_iconst (v := 0) C dX7_firstWithin_106 (by decide) ?_
              exact Jk107_21 _ _ hF
            refine r_icmp_ne (tgt := 106) C dX7_firstWithin_84 (by decide) hF (fun hF => ?_) (fun hF => ?_)
            · exact Jk106_29  _ hF
            · refine r_iload C dX7_firstWithin_87 4 rfl ?_
              refine r_aload_n C dX7_firstWithin_89 rfl 1 rfl ?_
              refine k_gIr C dX7_firstWithin_90 fr_X7_131 (by decide) hF (fun x31 hF => ?_)
              obtain ⟨k102_32, ek102_32, hF⟩ := jn_some hF
              have Jk102_32 : ∀  (h33 : PM), k102_32 h33 = some X → WP p l e (rmN 0 0 2) s m args below meth c D cy base ρ h0 0 0 9 (MQ below (QR D cy base ρ h0 (some (.int X.1)) X.2) args s 0 0 (fun q => base ≤ q)) 102 [(0, .ref a0), (1, .ref a1), (2, .int x5), (3, .long v8), (5, .int v17)] [] h33 := by
                intro h33 hF
                rw [ek102_32] at hF
                refine r_iconst (v := 1) C dX7_firstWithin_102 (by decide) ?_
                refine r_goto (tgt := 107) C dX7_firstWithin_103 (by decide) ?_
                exact Jk107_21 _ _ hF
              refine r_icmp_lt (tgt := 102) C dX7_firstWithin_93 (by decide) hF (fun hF => ?_) (fun hF => ?_)
              · exact Jk102_32  _ hF
              · refine r_iload C dX7_firstWithin_96 4 rfl ?_
                refine r_iload_n C dX7_firstWithin_98 rfl 2 rfl ?_
                refine r_icmp_le (tgt := 106) C dX7_firstWithin_99 (by decide) hF (fun hF => ?_) (fun hF => ?_)
                · exact Jk106_29  _ hF
                · exact Jk102_32  _ hF
      exact r_sub [1, 2, 3, 4, 0] rfl (L72 _ _ _ hF)
    refine r_if_ne (tgt := 50) C dX7_firstWithin_33 (by decide) hF (fun hF => ?_) (fun hF => ?_)
    · refine r_aload_n C dX7_firstWithin_50 rfl 3 rfl ?_
      refine k_gIr C dX7_firstWithin_51 fr_X7_128 (by decide) hF (fun x34 hF => ?_)
      refine r_iconst (v := 1) C dX7_firstWithin_54 (by decide) ?_
      refine r_icmp_ne (tgt := 69) C dX7_firstWithin_55 (by decide) hF (fun hF => ?_) (fun hF => ?_)
      · exact r_sub [2, 3, 1, 0] rfl (Jk69 _ _ hF)
      · refine r_iconst (v := 0) C dX7_firstWithin_58 (by decide) ?_
        refine r_iconst (v := 5) C dX7_firstWithin_59 (by decide) ?_
        refine r_aload_n C dX7_firstWithin_60 rfl 3 rfl ?_
        refine k_gIr C dX7_firstWithin_61 fr_X7_131 (by decide) hF (fun x35 hF => ?_)
        refine r_iload_n C dX7_firstWithin_64 rfl 1 rfl ?_
        obtain ⟨r36, h37, hc38, hF⟩ := cl_some hF
        refine r_callS (As := [.int 0, .int 5, .int x35, .int x5]) C dX7_firstWithin_65 V hT cal_X3_block ml_X7_136 sm_X3_block (by decide) rfl rfl (Nat.le_of_ble_eq_true rfl) (by decide) (by decide) (S_X3_block _ _ hc38) ?_
        refine r_lstore_n C dX7_firstWithin_68 rfl (by decide) rfl ?_
        exact r_sub [2, 3, 1, 0] rfl (Jk69 _ _ hF)
    · refine r_aload_n C dX7_firstWithin_36 rfl 3 rfl ?_
      refine k_gIr C dX7_firstWithin_37 fr_X7_131 (by decide) hF (fun x39 hF => ?_)
      refine r_iload_n C dX7_firstWithin_40 rfl 1 rfl ?_
      refine r_iconst (v := 0) C dX7_firstWithin_41 (by decide) ?_
      refine r_iconst (v := 5) C dX7_firstWithin_42 (by decide) ?_
      obtain ⟨r40, h41, hc42, hF⟩ := cl_some hF
      refine r_callS (As := [.int x39, .int x5, .int 0, .int 5]) C dX7_firstWithin_43 V hT cal_X3_block ml_X7_136 sm_X3_block (by decide) rfl rfl (Nat.le_of_ble_eq_true rfl) (by decide) (by decide) (S_X3_block _ _ hc42) ?_
      refine r_lstore_n C dX7_firstWithin_46 rfl (by decide) rfl ?_
      refine r_goto (tgt := 69) C dX7_firstWithin_47 (by decide) ?_
      exact r_sub [2, 3, 1, 0] rfl (Jk69 _ _ hF)
  · refine r_iconst (v := (-1)) C dX7_firstWithin_23 (by decide) ?_
    exact k_iret C dX7_firstWithin_24 hr (by decide) (by decide) hF
def F_X7_offerTo (a0 : Nat) (a1 : Nat) (a2 : Nat) (h0 : PM) : Option (Unit × PM) := gR h0 a0 8 1 fun x1 => gI h0 x1 2 0 fun x2 => gR h0 a1 5 3 fun x3 => gI h0 x3 2 0 fun x4 => jn (fun (s5 : Int32) (h6 : PM) => jn (fun  (h7 : PM) => some ((), h7)) fun k154 => if s5 = (-1) then (k154 h6) else (gR h6 a0 8 1 fun x8 => gI h6 x8 2 3 fun x9 => lt_ (3 * x9) fun x10 => gR h6 a0 8 1 fun x11 => dv 6 (gR h6 a0 8 1 fun x12 => gI h6 x12 2 2 fun x13 => gR h6 a2 4 0 fun x14 => aS h6 1 x10 fun x15 => aI h6 x14 x15 fun x16 => pI h6 x11 2 4 ((s5 - s5 / 6 * 6) - (x13 * x16)) fun h17 => gR h17 a0 8 1 fun x18 => dv 6 (dv 6 (gR h17 a0 8 1 fun x19 => gI h17 x19 2 2 fun x20 => gR h17 a2 4 0 fun x21 => aS h17 1 (x10 + 1) fun x22 => aI h17 x21 x22 fun x23 => pI h17 x18 2 5 (((s5 / 6) - (s5 / 6) / 6 * 6) - (x20 * x23)) fun h24 => gR h24 a0 8 1 fun x25 => dv 36 (gR h24 a0 8 1 fun x26 => gI h24 x26 2 2 fun x27 => gR h24 a2 4 0 fun x28 => aS h24 1 (x10 + 2) fun x29 => aI h24 x28 x29 fun x30 => pI h24 x25 2 6 ((s5 / 36) - (x27 * x30)) fun h31 => gR h31 a1 5 3 fun x32 => gR h31 a0 8 1 fun x33 => tst h31 x32 2 (cl (F_X1_take x32 x33 h31) fun r34 h35 => k154 h35))))))) fun k26 => if x2 ≤ x4 then (k26 (-1) h0) else (tst h0 a0 8 (cl (F_X7_firstWithin a0 a1 h0) fun r37 h38 => k26 r37 h38))
set_option maxRecDepth 100000 in
set_option maxHeartbeats 4000000 in
theorem S_X7_offerTo {a0 : Nat} {a1 : Nat} {a2 : Nat} {h0 : PM} (r : Unit) (h' : PM) (hF : F_X7_offerTo a0 a1 a2 h0 = some (r, h')) : CN yX7_offerTo cX7_offerTo 5 none 0 0 3 [.ref a0, .ref a1, .ref a2] h0 none h' := by
  obtain ⟨X, eX⟩ : ∃ X, X = (r, h') := ⟨_, rfl⟩
  rw [← eX] at hF
  have e1 : r = X.1 := by rw [eX]
  have e2 : h' = X.2 := by rw [eX]
  rw [e2]
  clear eX e1 e2
  unfold F_X7_offerTo at hF
  refine CN_of (by decide) (fun ρ => Nat.le_of_ble_eq_true rfl) rfl ?_
  intro p l e s m args below meth c D cy base ρ hT C V hr hnm
  refine r_aload_n C dX7_offerTo_0 rfl 0 rfl ?_
  refine k_gR C dX7_offerTo_1 fd_X7_20 (by decide) hF (fun x1 hF => ?_)
  refine k_gI C dX7_offerTo_4 fd_X7_38 (by decide) hF (fun x2 hF => ?_)
  refine r_aload_n C dX7_offerTo_7 rfl 1 rfl ?_
  refine k_gRr C dX7_offerTo_8 fr_X7_35 (by decide) hF (fun x3 hF => ?_)
  refine k_gI C dX7_offerTo_11 fd_X7_38 (by decide) hF (fun x4 hF => ?_)
  obtain ⟨k26, ek26, hF⟩ := jn_some hF
  have Jk26 : ∀ (s5 : Int32) (h6 : PM), k26 s5 h6 = some X → WP p l e (rmN 0 0 3) s m args below meth c D cy base ρ h0 0 0 5 (MQ below (QR D cy base ρ h0 none X.2) args s 0 0 (fun q => base ≤ q)) 26 [(0, .ref a0), (1, .ref a1), (2, .ref a2)] [.int s5] h6 := by
    intro s5 h6 hF
    rw [ek26] at hF
    refine r_istore_n C dX7_offerTo_26 rfl (by decide) rfl ?_
    refine r_iload_n C dX7_offerTo_27 rfl 0 rfl ?_
    refine r_iconst (v := (-1)) C dX7_offerTo_28 (by decide) ?_
    obtain ⟨k154, ek154, hF⟩ := jn_some hF
    have Jk154 : ∀  (h7 : PM), k154 h7 = some X → WP p l e (rmN 0 0 3) s m args below meth c D cy base ρ h0 0 0 5 (MQ below (QR D cy base ρ h0 none X.2) args s 0 0 (fun q => base ≤ q)) 154 [] [] h7 := by
      intro h7 hF
      rw [ek154] at hF
      exact k_vret C dX7_offerTo_154 hr (by decide) (by decide) hF
    refine r_icmp_eq (tgt := 154) C dX7_offerTo_29 (by decide) hF (fun hF => ?_) (fun hF => ?_)
    · exact r_sub [] rfl (Jk154  _ hF)
    · refine r_iconst (v := 3) C dX7_offerTo_32 (by decide) ?_
      refine r_aload_n C dX7_offerTo_33 rfl 1 rfl ?_
      refine k_gR C dX7_offerTo_34 fd_X7_20 (by decide) hF (fun x8 hF => ?_)
      refine k_gI C dX7_offerTo_37 fd_X7_86 (by decide) hF (fun x9 hF => ?_)
      refine r_imul C dX7_offerTo_40 ?_
      refine k_lti hF (fun x10 hF => ?_)
      refine r_istore C dX7_offerTo_41 (by decide) rfl ?_
      refine r_aload_n C dX7_offerTo_43 rfl 2 rfl ?_
      refine k_gR C dX7_offerTo_44 fd_X7_20 (by decide) hF (fun x11 hF => ?_)
      refine r_iload_n C dX7_offerTo_47 rfl 1 rfl ?_
      refine r_bipush (v := 6) C dX7_offerTo_48 (by decide) ?_
      refine k_irem C dX7_offerTo_50 hF (fun hF => ?_)
      refine r_aload_n C dX7_offerTo_51 rfl 2 rfl ?_
      refine k_gR C dX7_offerTo_52 fd_X7_20 (by decide) hF (fun x12 hF => ?_)
      refine k_gI C dX7_offerTo_55 fd_X7_60 (by decide) hF (fun x13 hF => ?_)
      refine r_aload_n C dX7_offerTo_58 rfl 4 rfl ?_
      refine k_gRr C dX7_offerTo_59 fr_X7_106 (by decide) hF (fun x14 hF => ?_)
      refine r_gsN C V dX7_offerTo_62 gn_X7_109 ?_
      refine r_iload C dX7_offerTo_65 0 rfl ?_
      refine k_aS C dX7_offerTo_67 hF (fun x15 hF => ?_)
      refine k_aI C dX7_offerTo_68 hF (fun x16 hF => ?_)
      refine r_imul C dX7_offerTo_69 ?_
      refine r_isub C dX7_offerTo_70 ?_
      refine k_pI C dX7_offerTo_71 fd_X7_112 (fun z => by cases z) (by decide) hF (fun h17 hF => ?_)
      refine r_aload_n C dX7_offerTo_74 rfl 2 rfl ?_
      refine k_gR C dX7_offerTo_75 fd_X7_20 (by decide) hF (fun x18 hF => ?_)
      refine r_iload_n C dX7_offerTo_78 rfl 1 rfl ?_
      refine r_bipush (v := 6) C dX7_offerTo_79 (by decide) ?_
      refine k_idiv C dX7_offerTo_81 hF (fun hF => ?_)
      refine r_bipush (v := 6) C dX7_offerTo_82 (by decide) ?_
      refine k_irem C dX7_offerTo_84 hF (fun hF => ?_)
      refine r_aload_n C dX7_offerTo_85 rfl 2 rfl ?_
      refine k_gR C dX7_offerTo_86 fd_X7_20 (by decide) hF (fun x19 hF => ?_)
      refine k_gI C dX7_offerTo_89 fd_X7_60 (by decide) hF (fun x20 hF => ?_)
      refine r_aload_n C dX7_offerTo_92 rfl 4 rfl ?_
      refine k_gRr C dX7_offerTo_93 fr_X7_106 (by decide) hF (fun x21 hF => ?_)
      refine r_gsN C V dX7_offerTo_96 gn_X7_109 ?_
      refine r_iload C dX7_offerTo_99 0 rfl ?_
      refine r_iconst (v := 1) C dX7_offerTo_101 (by decide) ?_
      refine r_iadd C dX7_offerTo_102 ?_
      refine k_aS C dX7_offerTo_103 hF (fun x22 hF => ?_)
      refine k_aI C dX7_offerTo_104 hF (fun x23 hF => ?_)
      refine r_imul C dX7_offerTo_105 ?_
      refine r_isub C dX7_offerTo_106 ?_
      refine k_pI C dX7_offerTo_107 fd_X7_115 (fun z => by cases z) (by decide) hF (fun h24 hF => ?_)
      refine r_aload_n C dX7_offerTo_110 rfl 2 rfl ?_
      refine k_gR C dX7_offerTo_111 fd_X7_20 (by decide) hF (fun x25 hF => ?_)
      refine r_iload_n C dX7_offerTo_114 rfl 1 rfl ?_
      refine r_bipush (v := 36) C dX7_offerTo_115 (by decide) ?_
      refine k_idiv C dX7_offerTo_117 hF (fun hF => ?_)
      refine r_aload_n C dX7_offerTo_118 rfl 2 rfl ?_
      refine k_gR C dX7_offerTo_119 fd_X7_20 (by decide) hF (fun x26 hF => ?_)
      refine k_gI C dX7_offerTo_122 fd_X7_60 (by decide) hF (fun x27 hF => ?_)
      refine r_aload_n C dX7_offerTo_125 rfl 4 rfl ?_
      refine k_gRr C dX7_offerTo_126 fr_X7_106 (by decide) hF (fun x28 hF => ?_)
      refine r_gsN C V dX7_offerTo_129 gn_X7_109 ?_
      refine r_iload C dX7_offerTo_132 0 rfl ?_
      refine r_iconst (v := 2) C dX7_offerTo_134 (by decide) ?_
      refine r_iadd C dX7_offerTo_135 ?_
      refine k_aS C dX7_offerTo_136 hF (fun x29 hF => ?_)
      refine k_aI C dX7_offerTo_137 hF (fun x30 hF => ?_)
      refine r_imul C dX7_offerTo_138 ?_
      refine r_isub C dX7_offerTo_139 ?_
      refine k_pI C dX7_offerTo_140 fd_X7_118 (fun z => by cases z) (by decide) hF (fun h31 hF => ?_)
      refine r_aload_n C dX7_offerTo_143 rfl 3 rfl ?_
      refine k_gRr C dX7_offerTo_144 fr_X7_35 (by decide) hF (fun x32 hF => ?_)
      refine r_aload_n C dX7_offerTo_147 rfl 2 rfl ?_
      refine k_gR C dX7_offerTo_148 fd_X7_20 (by decide) hF (fun x33 hF => ?_)
      obtain ⟨ht, hF⟩ := tst_some hF
      obtain ⟨r34, h35, hc36, hF⟩ := cl_some hF
      refine r_callV (As := [.ref x33]) C dX7_offerTo_151 V hT cal_X1_take cls_2 ml_X7_121 im_X1_take se_X1_take ht (by decide) rfl rfl (Nat.le_of_ble_eq_true rfl) (by decide) (by decide) (S_X1_take _ _ hc36) ?_
      exact r_sub [] rfl (Jk154  _ hF)
  refine r_icmp_le (tgt := 25) C dX7_offerTo_14 (by decide) hF (fun hF => ?_) (fun hF => ?_)
  · refine r_iconst (v := (-1)) C dX7_offerTo_25 (by decide) ?_
    exact Jk26 _ _ hF
  · refine r_aload_n C dX7_offerTo_17 rfl 0 rfl ?_
    refine r_aload_n C dX7_offerTo_18 rfl 1 rfl ?_
    obtain ⟨ht, hF⟩ := tst_some hF
    obtain ⟨r37, h38, hc39, hF⟩ := cl_some hF
    refine r_callV (As := [.ref a1]) C dX7_offerTo_19 V hT cal_X7_firstWithin cls_8 ml_X7_102 im_X7_firstWithin se_X7_firstWithin ht (by decide) rfl rfl (Nat.le_of_ble_eq_true rfl) (by decide) (by decide) (S_X7_firstWithin _ _ hc39) ?_
    refine r_goto (tgt := 26) C dX7_offerTo_22 (by decide) ?_
    exact Jk26 _ _ hF
def F_X7_startsOnSound_L10 (c2 : Int64) (k64 : Int64 → PM → Option (Int64 × PM)) : Nat → Int64 → Int64 → Int32 → PM → Option (Int64 × PM)
  | 0, _, _, _, _ => none
  | fu + 1, v3, v4, v5, h6 => if 36 ≤ v5 then (k64 v3 h6) else (if (lg_cmp v4 0) = 0 then (k64 v3 h6) else (if (lg_cmp v3 0) = 0 then (k64 v3 h6) else (cl (F_J13_bitCount_95d88 ((v4 &&& (-v4)) - 1) h6) fun r7 h8 => lt_ (v3 &&& ((Int64.toUInt64 c2 >>> ((Int32.toInt64 r7).toUInt64 &&& Int64.toUInt64 63)).toInt64)) fun x10 => lt_ (v4 &&& (v4 - 1)) fun x11 => F_X7_startsOnSound_L10 c2 k64 fu x10 x11 (v5 + 1) h8)))
def F_X7_startsOnSound (a0 : Int64) (a2 : Int64) (a4 : Int64) (h0 : PM) : Option (Int64 × PM) := jn (fun (v1 : Int64) (h2 : PM) => some (v1, h2)) fun k64 => F_X7_startsOnSound_L10 a2 k64 LF a0 a4 0 h0
set_option maxRecDepth 100000 in
set_option maxHeartbeats 4000000 in
theorem S_X7_startsOnSound {a0 : Int64} {a2 : Int64} {a4 : Int64} {h0 : PM} (r : Int64) (h' : PM) (hF : F_X7_startsOnSound a0 a2 a4 h0 = some (r, h')) : CN yX7_startsOnSound cX7_startsOnSound 11 (some .long) 0 0 1 [.long a0, .long a2, .long a4] h0 (some (.long r)) h' := by
  obtain ⟨X, eX⟩ : ∃ X, X = (r, h') := ⟨_, rfl⟩
  rw [← eX] at hF
  have e1 : r = X.1 := by rw [eX]
  have e2 : h' = X.2 := by rw [eX]
  rw [e1, e2]
  clear eX e1 e2
  unfold F_X7_startsOnSound at hF
  refine CN_of (by decide) (fun ρ => Nat.le_of_ble_eq_true rfl) rfl ?_
  intro p l e s m args below meth c D cy base ρ hT C V hr hnm
  refine r_lload_n C dX7_startsOnSound_0 rfl 0 rfl ?_
  refine r_lstore C dX7_startsOnSound_1 (by decide) rfl ?_
  refine r_lload C dX7_startsOnSound_3 3 rfl ?_
  refine r_lstore C dX7_startsOnSound_5 (by decide) rfl ?_
  refine r_iconst (v := 0) C dX7_startsOnSound_7 (by decide) ?_
  refine r_istore C dX7_startsOnSound_8 (by decide) rfl ?_
  obtain ⟨k64, ek64, hF⟩ := jn_some hF
  have Jk64 : ∀ (v1 : Int64) (h2 : PM), k64 v1 h2 = some X → WP p l e (rmN 0 0 1) s m args below meth c D cy base ρ h0 0 0 11 (MQ below (QR D cy base ρ h0 (some (.long X.1)) X.2) args s 0 0 (fun q => base ≤ q)) 64 [(6, .long v1)] [] h2 := by
    intro v1 h2 hF
    rw [ek64] at hF
    refine r_lload C dX7_startsOnSound_64 0 rfl ?_
    exact k_lret C dX7_startsOnSound_66 hr (by decide) (by decide) hF
  have L10 : ∀ (fu : Nat) (v3 : Int64) (v4 : Int64) (v5 : Int32) (h6 : PM), F_X7_startsOnSound_L10 a2 k64 fu v3 v4 v5 h6 = some X → WP p l e (rmN 0 0 1) s m args below meth c D cy base ρ h0 0 0 11 (MQ below (QR D cy base ρ h0 (some (.long X.1)) X.2) args s 0 0 (fun q => base ≤ q)) 10 [(2, .long a2), (6, .long v3), (8, .long v4), (10, .int v5)] [] h6 := by
    intro fu
    induction fu with
    | zero => intro v3 v4 v5 h6 hF; rw [F_X7_startsOnSound_L10.eq_1] at hF; cases hF
    | succ fu ih =>
      intro v3 v4 v5 h6 hF
      rw [F_X7_startsOnSound_L10.eq_2] at hF
      refine r_iload C dX7_startsOnSound_10 3 rfl ?_
      refine r_bipush (v := 36) C dX7_startsOnSound_12 (by decide) ?_
      refine r_icmp_ge (tgt := 64) C dX7_startsOnSound_14 (by decide) hF (fun hF => ?_) (fun hF => ?_)
      · exact r_sub [1] rfl (Jk64 _ _ hF)
      · refine r_lload C dX7_startsOnSound_17 2 rfl ?_
        refine r_lconst (v := 0) C dX7_startsOnSound_19 (by decide) ?_
        refine r_lcmp C dX7_startsOnSound_20 ?_
        refine r_if_eq (tgt := 64) C dX7_startsOnSound_21 (by decide) hF (fun hF => ?_) (fun hF => ?_)
        · exact r_sub [1] rfl (Jk64 _ _ hF)
        · refine r_lload C dX7_startsOnSound_24 1 rfl ?_
          refine r_lconst (v := 0) C dX7_startsOnSound_26 (by decide) ?_
          refine r_lcmp C dX7_startsOnSound_27 ?_
          refine r_if_eq (tgt := 64) C dX7_startsOnSound_28 (by decide) hF (fun hF => ?_) (fun hF => ?_)
          · exact r_sub [1] rfl (Jk64 _ _ hF)
          · refine r_lload C dX7_startsOnSound_31 1 rfl ?_
            refine r_lload_n C dX7_startsOnSound_33 rfl 0 rfl ?_
            refine r_lload C dX7_startsOnSound_34 2 rfl ?_
            refine r_lload C dX7_startsOnSound_36 2 rfl ?_
            refine r_lneg C dX7_startsOnSound_38 ?_
            refine r_land C dX7_startsOnSound_39 ?_
            refine r_lconst (v := 1) C dX7_startsOnSound_40 (by decide) ?_
            refine r_lsub C dX7_startsOnSound_41 ?_
            obtain ⟨r7, h8, hc9, hF⟩ := cl_some hF
            refine r_callS (As := [.long ((v4 &&& (-v4)) - 1)]) C dX7_startsOnSound_42 V hT cal_J13_bitCount_95d88 ml_X7_170 sm_J13_bitCount_95d88 (by decide) rfl rfl (Nat.le_of_ble_eq_true rfl) (by decide) (by decide) (S_J13_bitCount_95d88 _ _ hc9) ?_
            refine r_lushr C dX7_startsOnSound_45 ?_
            refine r_land C dX7_startsOnSound_46 ?_
            refine k_ltl hF (fun x10 hF => ?_)
            refine r_lstore C dX7_startsOnSound_47 (by decide) rfl ?_
            refine r_lload C dX7_startsOnSound_49 2 rfl ?_
            refine r_lload C dX7_startsOnSound_51 2 rfl ?_
            refine r_lconst (v := 1) C dX7_startsOnSound_53 (by decide) ?_
            refine r_lsub C dX7_startsOnSound_54 ?_
            refine r_land C dX7_startsOnSound_55 ?_
            refine k_ltl hF (fun x11 hF => ?_)
            refine r_lstore C dX7_startsOnSound_56 (by decide) rfl ?_
            refine r_iinc (v := v5 + 1) C dX7_startsOnSound_58 3 rfl (congrArg (fun z => v5 + z) (by decide)) (by decide) rfl ?_
            refine r_goto (tgt := 10) C dX7_startsOnSound_61 (by decide) ?_
            exact r_sub [3, 2, 1, 0] rfl (ih _ _ _ _ hF)
  exact r_sub [4, 2, 1, 0] rfl (L10 _ _ _ _ _ hF)
def F_X7_startsInRow_L7 (c0 : Nat) (c1 : Nat) (c2 : Nat) (c3 : Int32) (k57 : Int64 → PM → Option (Int64 × PM)) : Nat → Int64 → Int32 → PM → Option (Int64 × PM)
  | 0, _, _, _ => none
  | fu + 1, v3, v4, h5 => gR h5 c0 8 3 fun x6 => aI h5 x6 2 fun x7 => if x7 ≤ v4 then (k57 v3 h5) else (if 6 ≤ (c3 + v4) then (k57 v3 h5) else (if (lg_cmp v3 0) = 0 then (k57 v3 h5) else (aJ h5 c1 (c3 + v4) fun x8 => aJ h5 c2 v4 fun x9 => cl (F_X7_startsOnSound v3 x8 x9 h5) fun r10 h11 => F_X7_startsInRow_L7 c0 c1 c2 c3 k57 fu r10 (v4 + 1) h11)))
def F_X7_startsInRow (a0 : Nat) (a1 : Nat) (a2 : Nat) (a3 : Int32) (a4 : Int64) (h0 : PM) : Option (Int64 × PM) := jn (fun (v1 : Int64) (h2 : PM) => some (v1, h2)) fun k57 => F_X7_startsInRow_L7 a0 a1 a2 a3 k57 LF a4 0 h0
set_option maxRecDepth 100000 in
set_option maxHeartbeats 4000000 in
theorem S_X7_startsInRow {a0 : Nat} {a1 : Nat} {a2 : Nat} {a3 : Int32} {a4 : Int64} {h0 : PM} (r : Int64) (h' : PM) (hF : F_X7_startsInRow a0 a1 a2 a3 a4 h0 = some (r, h')) : CN yX7_startsInRow cX7_startsInRow 9 (some .long) 0 0 2 [.ref a0, .ref a1, .ref a2, .int a3, .long a4] h0 (some (.long r)) h' := by
  obtain ⟨X, eX⟩ : ∃ X, X = (r, h') := ⟨_, rfl⟩
  rw [← eX] at hF
  have e1 : r = X.1 := by rw [eX]
  have e2 : h' = X.2 := by rw [eX]
  rw [e1, e2]
  clear eX e1 e2
  unfold F_X7_startsInRow at hF
  refine CN_of (by decide) (fun ρ => Nat.le_of_ble_eq_true rfl) rfl ?_
  intro p l e s m args below meth c D cy base ρ hT C V hr hnm
  refine r_lload C dX7_startsInRow_0 4 rfl ?_
  refine r_lstore C dX7_startsInRow_2 (by decide) rfl ?_
  refine r_iconst (v := 0) C dX7_startsInRow_4 (by decide) ?_
  refine r_istore C dX7_startsInRow_5 (by decide) rfl ?_
  obtain ⟨k57, ek57, hF⟩ := jn_some hF
  have Jk57 : ∀ (v1 : Int64) (h2 : PM), k57 v1 h2 = some X → WP p l e (rmN 0 0 2) s m args below meth c D cy base ρ h0 0 0 9 (MQ below (QR D cy base ρ h0 (some (.long X.1)) X.2) args s 0 0 (fun q => base ≤ q)) 57 [(6, .long v1)] [] h2 := by
    intro v1 h2 hF
    rw [ek57] at hF
    refine r_lload C dX7_startsInRow_57 0 rfl ?_
    exact k_lret C dX7_startsInRow_59 hr (by decide) (by decide) hF
  have L7 : ∀ (fu : Nat) (v3 : Int64) (v4 : Int32) (h5 : PM), F_X7_startsInRow_L7 a0 a1 a2 a3 k57 fu v3 v4 h5 = some X → WP p l e (rmN 0 0 2) s m args below meth c D cy base ρ h0 0 0 9 (MQ below (QR D cy base ρ h0 (some (.long X.1)) X.2) args s 0 0 (fun q => base ≤ q)) 7 [(0, .ref a0), (1, .ref a1), (2, .ref a2), (3, .int a3), (6, .long v3), (8, .int v4)] [] h5 := by
    intro fu
    induction fu with
    | zero => intro v3 v4 h5 hF; rw [F_X7_startsInRow_L7.eq_1] at hF; cases hF
    | succ fu ih =>
      intro v3 v4 h5 hF
      rw [F_X7_startsInRow_L7.eq_2] at hF
      refine r_iload C dX7_startsInRow_7 5 rfl ?_
      refine r_aload_n C dX7_startsInRow_9 rfl 0 rfl ?_
      refine k_gR C dX7_startsInRow_10 fd_X7_28 (by decide) hF (fun x6 hF => ?_)
      refine r_iconst (v := 2) C dX7_startsInRow_13 (by decide) ?_
      refine k_aI C dX7_startsInRow_14 hF (fun x7 hF => ?_)
      refine r_icmp_ge (tgt := 57) C dX7_startsInRow_15 (by decide) hF (fun hF => ?_) (fun hF => ?_)
      · exact r_sub [4] rfl (Jk57 _ _ hF)
      · refine r_iload_n C dX7_startsInRow_18 rfl 3 rfl ?_
        refine r_iload C dX7_startsInRow_19 5 rfl ?_
        refine r_iadd C dX7_startsInRow_21 ?_
        refine r_bipush (v := 6) C dX7_startsInRow_22 (by decide) ?_
        refine r_icmp_ge (tgt := 57) C dX7_startsInRow_24 (by decide) hF (fun hF => ?_) (fun hF => ?_)
        · exact r_sub [4] rfl (Jk57 _ _ hF)
        · refine r_lload C dX7_startsInRow_27 4 rfl ?_
          refine r_lconst (v := 0) C dX7_startsInRow_29 (by decide) ?_
          refine r_lcmp C dX7_startsInRow_30 ?_
          refine r_if_eq (tgt := 57) C dX7_startsInRow_31 (by decide) hF (fun hF => ?_) (fun hF => ?_)
          · exact r_sub [4] rfl (Jk57 _ _ hF)
          · refine r_lload C dX7_startsInRow_34 4 rfl ?_
            refine r_aload_n C dX7_startsInRow_36 rfl 1 rfl ?_
            refine r_iload_n C dX7_startsInRow_37 rfl 3 rfl ?_
            refine r_iload C dX7_startsInRow_38 5 rfl ?_
            refine r_iadd C dX7_startsInRow_40 ?_
            refine k_aJ C dX7_startsInRow_41 hF (fun x8 hF => ?_)
            refine r_aload_n C dX7_startsInRow_42 rfl 2 rfl ?_
            refine r_iload C dX7_startsInRow_43 5 rfl ?_
            refine k_aJ C dX7_startsInRow_45 hF (fun x9 hF => ?_)
            obtain ⟨r10, h11, hc12, hF⟩ := cl_some hF
            refine r_callS (As := [.long v3, .long x8, .long x9]) C dX7_startsInRow_46 V hT cal_X7_startsOnSound ml_X7_166 sm_X7_startsOnSound (by decide) rfl rfl (Nat.le_of_ble_eq_true rfl) (by decide) (by decide) (S_X7_startsOnSound _ _ hc12) ?_
            refine r_lstore C dX7_startsInRow_49 (by decide) rfl ?_
            refine r_iinc (v := v4 + 1) C dX7_startsInRow_51 5 rfl (congrArg (fun z => v4 + z) (by decide)) (by decide) rfl ?_
            refine r_goto (tgt := 7) C dX7_startsInRow_54 (by decide) ?_
            exact r_sub [2, 3, 4, 5, 1, 0] rfl (ih _ _ _ hF)
  exact r_sub [2, 3, 4, 5, 1, 0] rfl (L7 _ _ _ _ hF)
def F_X7_search_L84 (c0 : Nat) (c1 : Nat) (c5 : Int64) (c7 : Nat) (k157 : Int32 → PM → Option (Int32 × PM)) : Nat → Int32 → Int32 → PM → Option (Int32 × PM)
  | 0, _, _, _ => none
  | fu + 1, v16, v17, h18 => if 6 ≤ v17 then (k157 v16 h18) else (gR h18 c0 8 2 fun x19 => gR h18 c0 8 3 fun x20 => aI h18 x20 2 fun x21 => jn (fun (s22 : Int64) (s23 : Int32) (s24 : Nat) (h25 : PM) => sJ h25 s24 s23 s22 fun h26 => jn (fun (s27 : Int32) (h28 : PM) => F_X7_search_L84 c0 c1 c5 c7 k157 fu s27 (v17 + 1) h28) fun k149 => jn (fun  (h30 : PM) => k149 1 h30) fun k144 => if ¬ v16 = 0 then (k144 h26) else (gR h26 c0 8 2 fun x31 => aJ h26 x31 v17 fun x32 => if (lg_cmp x32 0) = 0 then (k149 0 h26) else (k144 h26))) fun k126 => if 6 < (v17 + x21) then (k126 0 v17 x19 h18) else (tst h18 c0 8 (cl (F_X7_startsInRow c0 c1 c7 v17 c5 h18) fun r33 h34 => k126 r33 v17 x19 h34)))
def F_X7_search_L3 (c0 : Nat) (c1 : Nat) (c2 : Nat) (c3 : Int32) (c4 : Int32) (k40 : PM → Option (Int32 × PM)) : Nat → Int32 → PM → Option (Int32 × PM)
  | 0, _, _ => none
  | fu + 1, v39, h40 => if 3 ≤ v39 then (k40 h40) else (gR h40 c0 8 3 fun x41 => gR h40 c2 4 1 fun x42 => aS h40 1 ((3 * c4) + v39) fun x43 => aI h40 x42 x43 fun x44 => sI h40 x41 v39 (c3 * x44) fun h45 => F_X7_search_L3 c0 c1 c2 c3 c4 k40 fu (v39 + 1) h45)
def F_X7_search (a0 : Nat) (a1 : Nat) (a2 : Nat) (a3 : Int32) (a4 : Int32) (h0 : PM) : Option (Int32 × PM) := jn (fun  (h1 : PM) => gR h1 a0 8 3 fun x2 => aI h1 x2 0 fun x3 => gR h1 a0 8 3 fun x4 => aI h1 x4 1 fun x5 => cl (F_X3_block 0 (6 - x3) 0 (6 - x5) h1) fun r6 h7 => gR h7 a2 4 2 fun x9 => cl (F_X3_maskOf a3 a4 h7) fun r10 h11 => aR h11 x9 r10 fun x13 => jn (fun (v14 : Int32) (h15 : PM) => rz v14 h15) fun k157 => F_X7_search_L84 a0 a1 r6 x13 k157 LF 0 0 h11) fun k40 => F_X7_search_L3 a0 a1 a2 a3 a4 k40 LF 0 h0
set_option maxRecDepth 100000 in
set_option maxHeartbeats 4000000 in
theorem S_X7_search {a0 : Nat} {a1 : Nat} {a2 : Nat} {a3 : Int32} {a4 : Int32} {h0 : PM} (r : Int32) (h' : PM) (hF : F_X7_search a0 a1 a2 a3 a4 h0 = some (r, h')) : CN yX7_search cX7_search 10 (some .boolean) 0 0 3 [.ref a0, .ref a1, .ref a2, .int a3, .int a4] h0 (some (.int r)) h' := by
  obtain ⟨X, eX⟩ : ∃ X, X = (r, h') := ⟨_, rfl⟩
  rw [← eX] at hF
  have e1 : r = X.1 := by rw [eX]
  have e2 : h' = X.2 := by rw [eX]
  rw [e1, e2]
  clear eX e1 e2
  unfold F_X7_search at hF
  refine CN_of (by decide) (fun ρ => Nat.le_of_ble_eq_true rfl) rfl ?_
  intro p l e s m args below meth c D cy base ρ hT C V hr hnm
  refine r_iconst (v := 0) C dX7_search_0 (by decide) ?_
  refine r_istore C dX7_search_1 (by decide) rfl ?_
  obtain ⟨k40, ek40, hF⟩ := jn_some hF
  have Jk40 : ∀  (h1 : PM), k40 h1 = some X → WP p l e (rmN 0 0 3) s m args below meth c D cy base ρ h0 0 0 10 (MQ below (QR D cy base ρ h0 (some (.int X.1)) X.2) args s 0 0 (fun q => base ≤ q)) 40 [(0, .ref a0), (1, .ref a1), (2, .ref a2), (3, .int a3), (4, .int a4)] [] h1 := by
    intro h1 hF
    rw [ek40] at hF
    refine r_iconst (v := 0) C dX7_search_40 (by decide) ?_
    refine r_bipush (v := 6) C dX7_search_41 (by decide) ?_
    refine r_aload_n C dX7_search_43 rfl 0 rfl ?_
    refine k_gR C dX7_search_44 fd_X7_28 (by decide) hF (fun x2 hF => ?_)
    refine r_iconst (v := 0) C dX7_search_47 (by decide) ?_
    refine k_aI C dX7_search_48 hF (fun x3 hF => ?_)
    refine r_isub C dX7_search_49 ?_
    refine r_iconst (v := 0) C dX7_search_50 (by decide) ?_
    refine r_bipush (v := 6) C dX7_search_51 (by decide) ?_
    refine r_aload_n C dX7_search_53 rfl 0 rfl ?_
    refine k_gR C dX7_search_54 fd_X7_28 (by decide) hF (fun x4 hF => ?_)
    refine r_iconst (v := 1) C dX7_search_57 (by decide) ?_
    refine k_aI C dX7_search_58 hF (fun x5 hF => ?_)
    refine r_isub C dX7_search_59 ?_
    obtain ⟨r6, h7, hc8, hF⟩ := cl_some hF
    refine r_callS (As := [.int 0, .int (6 - x3), .int 0, .int (6 - x5)]) C dX7_search_60 V hT cal_X3_block ml_X7_136 sm_X3_block (by decide) rfl rfl (Nat.le_of_ble_eq_true rfl) (by decide) (by decide) (S_X3_block _ _ hc8) ?_
    refine r_lstore C dX7_search_63 (by decide) rfl ?_
    refine r_aload_n C dX7_search_65 rfl 3 rfl ?_
    refine k_gRr C dX7_search_66 fr_X7_154 (by decide) hF (fun x9 hF => ?_)
    refine r_iload_n C dX7_search_69 rfl 4 rfl ?_
    refine r_iload C dX7_search_70 5 rfl ?_
    obtain ⟨r10, h11, hc12, hF⟩ := cl_some hF
    refine r_callS (As := [.int a3, .int a4]) C dX7_search_72 V hT cal_X3_maskOf ml_X7_158 sm_X3_maskOf (by decide) rfl rfl (Nat.le_of_ble_eq_true rfl) (by decide) (by decide) (S_X3_maskOf _ _ hc12) ?_
    refine k_aR C dX7_search_75 hF (fun x13 hF => ?_)
    refine r_astore C dX7_search_76 (by decide) rfl ?_
    refine r_iconst (v := 0) C dX7_search_78 (by decide) ?_
    refine r_istore C dX7_search_79 (by decide) rfl ?_
    refine r_iconst (v := 0) C dX7_search_81 (by decide) ?_
    refine r_istore C dX7_search_82 (by decide) rfl ?_
    obtain ⟨k157, ek157, hF⟩ := jn_some hF
    have Jk157 : ∀ (v14 : Int32) (h15 : PM), k157 v14 h15 = some X → WP p l e (rmN 0 0 3) s m args below meth c D cy base ρ h0 0 0 10 (MQ below (QR D cy base ρ h0 (some (.int X.1)) X.2) args s 0 0 (fun q => base ≤ q)) 157 [(8, .int v14)] [] h15 := by
      intro v14 h15 hF
      rw [ek157] at hF
      refine r_iload C dX7_search_157 0 rfl ?_
      exact k_zret C dX7_search_159 hr (by decide) (by decide) hF
    have L84 : ∀ (fu : Nat) (v16 : Int32) (v17 : Int32) (h18 : PM), F_X7_search_L84 a0 a1 r6 x13 k157 fu v16 v17 h18 = some X → WP p l e (rmN 0 0 3) s m args below meth c D cy base ρ h0 0 0 10 (MQ below (QR D cy base ρ h0 (some (.int X.1)) X.2) args s 0 0 (fun q => base ≤ q)) 84 [(0, .ref a0), (1, .ref a1), (5, .long r6), (7, .ref x13), (8, .int v16), (9, .int v17)] [] h18 := by
      intro fu
      induction fu with
      | zero => intro v16 v17 h18 hF; rw [F_X7_search_L84.eq_1] at hF; cases hF
      | succ fu ih =>
        intro v16 v17 h18 hF
        rw [F_X7_search_L84.eq_2] at hF
        refine r_iload C dX7_search_84 5 rfl ?_
        refine r_bipush (v := 6) C dX7_search_86 (by decide) ?_
        refine r_icmp_ge (tgt := 157) C dX7_search_88 (by decide) hF (fun hF => ?_) (fun hF => ?_)
        · exact r_sub [4] rfl (Jk157 _ _ hF)
        · refine r_aload_n C dX7_search_91 rfl 0 rfl ?_
          refine k_gR C dX7_search_92 fd_X7_24 (by decide) hF (fun x19 hF => ?_)
          refine r_iload C dX7_search_95 5 rfl ?_
          refine r_iload C dX7_search_97 5 rfl ?_
          refine r_aload_n C dX7_search_99 rfl 0 rfl ?_
          refine k_gR C dX7_search_100 fd_X7_28 (by decide) hF (fun x20 hF => ?_)
          refine r_iconst (v := 2) C dX7_search_103 (by decide) ?_
          refine k_aI C dX7_search_104 hF (fun x21 hF => ?_)
          refine r_iadd C dX7_search_105 ?_
          refine r_bipush (v := 6) C dX7_search_106 (by decide) ?_
          obtain ⟨k126_25, ek126_25, hF⟩ := jn_some hF
          have Jk126_25 : ∀ (s22 : Int64) (s23 : Int32) (s24 : Nat) (h26 : PM), k126_25 s22 s23 s24 h26 = some X → WP p l e (rmN 0 0 3) s m args below meth c D cy base ρ h0 0 0 10 (MQ below (QR D cy base ρ h0 (some (.int X.1)) X.2) args s 0 0 (fun q => base ≤ q)) 126 [(0, .ref a0), (1, .ref a1), (5, .long r6), (7, .ref x13), (8, .int v16), (9, .int v17)] [.long s22, .int s23, .ref s24] h26 := by
            intro s22 s23 s24 h26 hF
            rw [ek126_25] at hF
            refine k_sJ C dX7_search_126 hF (fun h27 hF => ?_)
            refine r_iload C dX7_search_127 4 rfl ?_
            obtain ⟨k149_29, ek149_29, hF⟩ := jn_some hF
            have Jk149_29 : ∀ (s28 : Int32) (h30 : PM), k149_29 s28 h30 = some X → WP p l e (rmN 0 0 3) s m args below meth c D cy base ρ h0 0 0 10 (MQ below (QR D cy base ρ h0 (some (.int X.1)) X.2) args s 0 0 (fun q => base ≤ q)) 149 [(0, .ref a0), (1, .ref a1), (5, .long r6), (7, .ref x13), (9, .int v17)] [.int s28] h30 := by
              intro s28 h30 hF
              rw [ek149_29] at hF
              refine r_istore C dX7_search_149 (by decide) rfl ?_
              refine r_iinc (v := v17 + 1) C dX7_search_151 5 rfl (congrArg (fun z => v17 + z) (by decide)) (by decide) rfl ?_
              refine r_goto (tgt := 84) C dX7_search_154 (by decide) ?_
              exact r_sub [2, 3, 4, 5, 1, 0] rfl (ih _ _ _ hF)
            obtain ⟨k144_32, ek144_32, hF⟩ := jn_some hF
            have Jk144_32 : ∀  (h33 : PM), k144_32 h33 = some X → WP p l e (rmN 0 0 3) s m args below meth c D cy base ρ h0 0 0 10 (MQ below (QR D cy base ρ h0 (some (.int X.1)) X.2) args s 0 0 (fun q => base ≤ q)) 144 [(0, .ref a0), (1, .ref a1), (5, .long r6), (7, .ref x13), (9, .int v17)] [] h33 := by
              intro h33 hF
              rw [ek144_32] at hF
              refine r_iconst (v := 1) C dX7_search_144 (by decide) ?_
              refine r_goto (tgt := 149) C dX7_search_145 (by decide) ?_
              exact Jk149_29 _ _ hF
            refine r_if_ne (tgt := 144) C dX7_search_129 (by decide) hF (fun hF => ?_) (fun hF => ?_)
            · exact r_sub [0, 1, 2, 3, 5] rfl (Jk144_32  _ hF)
            · refine r_aload_n C dX7_search_132 rfl 0 rfl ?_
              refine k_gR C dX7_search_133 fd_X7_24 (by decide) hF (fun x34 hF => ?_)
              refine r_iload C dX7_search_136 5 rfl ?_
              refine k_aJ C dX7_search_138 hF (fun x35 hF => ?_)
              refine r_lconst (v := 0) C dX7_search_139 (by decide) ?_
              refine r_lcmp C dX7_search_140 ?_
              refine r_if_eq (tgt := 148) C dX7_search_141 (by decide) hF (fun hF => ?_) (fun hF => ?_)
              · refine r_iconst (v := 0) C dX7_search_148 (by decide) ?_
                exact r_sub [0, 1, 2, 3, 5] rfl (Jk149_29 _ _ hF)
              · exact r_sub [0, 1, 2, 3, 5] rfl (Jk144_32  _ hF)
          refine r_icmp_gt (tgt := 125) C dX7_search_108 (by decide) hF (fun hF => ?_) (fun hF => ?_)
          · refine r_lconst (v := 0) C dX7_search_125 (by decide) ?_
            exact Jk126_25 _ _ _ _ hF
          · refine r_aload_n C dX7_search_111 rfl 0 rfl ?_
            refine r_aload_n C dX7_search_112 rfl 1 rfl ?_
            refine r_aload C dX7_search_113 3 rfl ?_
            refine r_iload C dX7_search_115 5 rfl ?_
            refine r_lload C dX7_search_117 2 rfl ?_
            obtain ⟨ht, hF⟩ := tst_some hF
            obtain ⟨r36, h37, hc38, hF⟩ := cl_some hF
            refine r_callV (As := [.ref a1, .ref x13, .int v17, .long r6]) C dX7_search_119 V hT cal_X7_startsInRow cls_8 ml_X7_162 im_X7_startsInRow se_X7_startsInRow ht (by decide) rfl rfl (Nat.le_of_ble_eq_true rfl) (by decide) (by decide) (S_X7_startsInRow _ _ hc38) ?_
            refine r_goto (tgt := 126) C dX7_search_122 (by decide) ?_
            exact Jk126_25 _ _ _ _ hF
    exact r_sub [4, 5, 3, 2, 1, 0] rfl (L84 _ _ _ _ hF)
  have L3 : ∀ (fu : Nat) (v39 : Int32) (h40 : PM), F_X7_search_L3 a0 a1 a2 a3 a4 k40 fu v39 h40 = some X → WP p l e (rmN 0 0 3) s m args below meth c D cy base ρ h0 0 0 10 (MQ below (QR D cy base ρ h0 (some (.int X.1)) X.2) args s 0 0 (fun q => base ≤ q)) 3 [(0, .ref a0), (1, .ref a1), (2, .ref a2), (3, .int a3), (4, .int a4), (5, .int v39)] [] h40 := by
    intro fu
    induction fu with
    | zero => intro v39 h40 hF; rw [F_X7_search_L3.eq_1] at hF; cases hF
    | succ fu ih =>
      intro v39 h40 hF
      rw [F_X7_search_L3.eq_2] at hF
      refine r_iload C dX7_search_3 5 rfl ?_
      refine r_iconst (v := 3) C dX7_search_5 (by decide) ?_
      refine r_icmp_ge (tgt := 40) C dX7_search_6 (by decide) hF (fun hF => ?_) (fun hF => ?_)
      · exact r_sub [0, 1, 2, 3, 4] rfl (Jk40  _ hF)
      · refine r_aload_n C dX7_search_9 rfl 0 rfl ?_
        refine k_gR C dX7_search_10 fd_X7_28 (by decide) hF (fun x41 hF => ?_)
        refine r_iload C dX7_search_13 5 rfl ?_
        refine r_iload_n C dX7_search_15 rfl 3 rfl ?_
        refine r_aload_n C dX7_search_16 rfl 2 rfl ?_
        refine k_gRr C dX7_search_17 fr_X7_153 (by decide) hF (fun x42 hF => ?_)
        refine r_gsN C V dX7_search_20 gn_X7_109 ?_
        refine r_iconst (v := 3) C dX7_search_23 (by decide) ?_
        refine r_iload C dX7_search_24 4 rfl ?_
        refine r_imul C dX7_search_26 ?_
        refine r_iload C dX7_search_27 5 rfl ?_
        refine r_iadd C dX7_search_29 ?_
        refine k_aS C dX7_search_30 hF (fun x43 hF => ?_)
        refine k_aI C dX7_search_31 hF (fun x44 hF => ?_)
        refine r_imul C dX7_search_32 ?_
        refine k_sI C dX7_search_33 hF (fun h45 hF => ?_)
        refine r_iinc (v := v39 + 1) C dX7_search_34 5 rfl (congrArg (fun z => v39 + z) (by decide)) (by decide) rfl ?_
        refine r_goto (tgt := 3) C dX7_search_37 (by decide) ?_
        exact r_sub [1, 2, 3, 4, 5, 0] rfl (ih _ _ hF)
  exact r_sub [1, 2, 3, 4, 5, 0] rfl (L3 _ _ _ hF)
def F_X7_offerWays_L46 (c0 : Nat) (c1 : Nat) (c2 : Nat) (c3 : Int32) (k74_17 : PM → Option (Unit × PM)) : Nat → Int32 → PM → Option (Unit × PM)
  | 0, _, _ => none
  | fu + 1, v19, h20 => gR h20 c0 8 0 fun x21 => ln h20 x21 fun x22 => if x22 ≤ v19 then (k74_17 h20) else (gR h20 c0 8 0 fun x23 => aR h20 x23 v19 fun x24 => tst h20 c0 8 (cl (F_X7_offerTo c0 x24 c2 h20) fun r25 h26 => F_X7_offerWays_L46 c0 c1 c2 c3 k74_17 fu (v19 + 1) h26))
def F_X7_offerWays_L2 (c0 : Nat) (c1 : Nat) (c2 : Nat) (k80 : PM → Option (Unit × PM)) : Nat → Int32 → PM → Option (Unit × PM)
  | 0, _, _ => none
  | fu + 1, v2, h3 => if 6 ≤ v2 then (k80 h3) else (tst h3 c0 8 (cl (F_X7_isWanted c0 h3) fun r4 h5 => if r4 = 0 then (k80 h5) else (gR h5 c0 8 1 fun x7 => pI h5 x7 2 3 v2 fun h8 => gR h8 c1 7 0 fun x9 => gR h8 c0 8 1 fun x10 => gI h8 x10 2 2 fun x11 => tst h8 c0 8 (cl (F_X7_search c0 x9 c2 x11 v2 h8) fun r12 h13 => jn (fun  (h15 : PM) => F_X7_offerWays_L2 c0 c1 c2 k80 fu (v2 + 1) h15) fun k74 => if r12 = 0 then (k74 h13) else (jn (fun  (h18 : PM) => k74 h18) fun k74_17 => F_X7_offerWays_L46 c0 c1 c2 v2 k74_17 LF 0 h13)))))
def F_X7_offerWays (a0 : Nat) (a1 : Nat) (a2 : Nat) (h0 : PM) : Option (Unit × PM) := jn (fun  (h1 : PM) => some ((), h1)) fun k80 => F_X7_offerWays_L2 a0 a1 a2 k80 LF 0 h0
set_option maxRecDepth 100000 in
set_option maxHeartbeats 4000000 in
theorem S_X7_offerWays {a0 : Nat} {a1 : Nat} {a2 : Nat} {h0 : PM} (r : Unit) (h' : PM) (hF : F_X7_offerWays a0 a1 a2 h0 = some (r, h')) : CN yX7_offerWays cX7_offerWays 5 none 0 0 4 [.ref a0, .ref a1, .ref a2] h0 none h' := by
  obtain ⟨X, eX⟩ : ∃ X, X = (r, h') := ⟨_, rfl⟩
  rw [← eX] at hF
  have e1 : r = X.1 := by rw [eX]
  have e2 : h' = X.2 := by rw [eX]
  rw [e2]
  clear eX e1 e2
  unfold F_X7_offerWays at hF
  refine CN_of (by decide) (fun ρ => Nat.le_of_ble_eq_true rfl) rfl ?_
  intro p l e s m args below meth c D cy base ρ hT C V hr hnm
  refine r_iconst (v := 0) C dX7_offerWays_0 (by decide) ?_
  refine r_istore_n C dX7_offerWays_1 rfl (by decide) rfl ?_
  obtain ⟨k80, ek80, hF⟩ := jn_some hF
  have Jk80 : ∀  (h1 : PM), k80 h1 = some X → WP p l e (rmN 0 0 4) s m args below meth c D cy base ρ h0 0 0 5 (MQ below (QR D cy base ρ h0 none X.2) args s 0 0 (fun q => base ≤ q)) 80 [] [] h1 := by
    intro h1 hF
    rw [ek80] at hF
    exact k_vret C dX7_offerWays_80 hr (by decide) (by decide) hF
  have L2 : ∀ (fu : Nat) (v2 : Int32) (h3 : PM), F_X7_offerWays_L2 a0 a1 a2 k80 fu v2 h3 = some X → WP p l e (rmN 0 0 4) s m args below meth c D cy base ρ h0 0 0 5 (MQ below (QR D cy base ρ h0 none X.2) args s 0 0 (fun q => base ≤ q)) 2 [(0, .ref a0), (1, .ref a1), (2, .ref a2), (3, .int v2)] [] h3 := by
    intro fu
    induction fu with
    | zero => intro v2 h3 hF; rw [F_X7_offerWays_L2.eq_1] at hF; cases hF
    | succ fu ih =>
      intro v2 h3 hF
      rw [F_X7_offerWays_L2.eq_2] at hF
      refine r_iload_n C dX7_offerWays_2 rfl 3 rfl ?_
      refine r_bipush (v := 6) C dX7_offerWays_3 (by decide) ?_
      refine r_icmp_ge (tgt := 80) C dX7_offerWays_5 (by decide) hF (fun hF => ?_) (fun hF => ?_)
      · exact r_sub [] rfl (Jk80  _ hF)
      · refine r_aload_n C dX7_offerWays_8 rfl 0 rfl ?_
        obtain ⟨ht, hF⟩ := tst_some hF
        obtain ⟨r4, h5, hc6, hF⟩ := cl_some hF
        refine r_callV (As := []) C dX7_offerWays_9 V hT cal_X7_isWanted cls_8 ml_X7_82 im_X7_isWanted se_X7_isWanted ht (by decide) rfl rfl (Nat.le_of_ble_eq_true rfl) (by decide) (by decide) (S_X7_isWanted _ _ hc6) ?_
        refine r_if_eq (tgt := 80) C dX7_offerWays_12 (by decide) hF (fun hF => ?_) (fun hF => ?_)
        · exact r_sub [] rfl (Jk80  _ hF)
        · refine r_aload_n C dX7_offerWays_15 rfl 0 rfl ?_
          refine k_gR C dX7_offerWays_16 fd_X7_20 (by decide) hF (fun x7 hF => ?_)
          refine r_iload_n C dX7_offerWays_19 rfl 3 rfl ?_
          refine k_pI C dX7_offerWays_20 fd_X7_86 (fun z => by cases z) (by decide) hF (fun h8 hF => ?_)
          refine r_aload_n C dX7_offerWays_23 rfl 0 rfl ?_
          refine r_aload_n C dX7_offerWays_24 rfl 1 rfl ?_
          refine k_gRr C dX7_offerWays_25 fr_X7_89 (by decide) hF (fun x9 hF => ?_)
          refine r_aload_n C dX7_offerWays_28 rfl 2 rfl ?_
          refine r_aload_n C dX7_offerWays_29 rfl 0 rfl ?_
          refine k_gR C dX7_offerWays_30 fd_X7_20 (by decide) hF (fun x10 hF => ?_)
          refine k_gI C dX7_offerWays_33 fd_X7_60 (by decide) hF (fun x11 hF => ?_)
          refine r_iload_n C dX7_offerWays_36 rfl 3 rfl ?_
          obtain ⟨ht, hF⟩ := tst_some hF
          obtain ⟨r12, h13, hc14, hF⟩ := cl_some hF
          refine r_callV (As := [.ref x9, .ref a2, .int x11, .int v2]) C dX7_offerWays_37 V hT cal_X7_search cls_8 ml_X7_94 im_X7_search se_X7_search ht (by decide) rfl rfl (Nat.le_of_ble_eq_true rfl) (by decide) (by decide) (S_X7_search _ _ hc14) ?_
          obtain ⟨k74_15, ek74_15, hF⟩ := jn_some hF
          have Jk74_15 : ∀  (h16 : PM), k74_15 h16 = some X → WP p l e (rmN 0 0 4) s m args below meth c D cy base ρ h0 0 0 5 (MQ below (QR D cy base ρ h0 none X.2) args s 0 0 (fun q => base ≤ q)) 74 [(0, .ref a0), (1, .ref a1), (2, .ref a2), (3, .int v2)] [] h16 := by
            intro h16 hF
            rw [ek74_15] at hF
            refine r_iinc (v := v2 + 1) C dX7_offerWays_74 3 rfl (congrArg (fun z => v2 + z) (by decide)) (by decide) rfl ?_
            refine r_goto (tgt := 2) C dX7_offerWays_77 (by decide) ?_
            exact r_sub [1, 2, 3, 0] rfl (ih _ _ hF)
          refine r_if_eq (tgt := 74) C dX7_offerWays_40 (by decide) hF (fun hF => ?_) (fun hF => ?_)
          · exact Jk74_15  _ hF
          · refine r_iconst (v := 0) C dX7_offerWays_43 (by decide) ?_
            refine r_istore C dX7_offerWays_44 (by decide) rfl ?_
            obtain ⟨k74_18, ek74_18, hF⟩ := jn_some hF
            have Jk74_18 : ∀  (h19 : PM), k74_18 h19 = some X → WP p l e (rmN 0 0 4) s m args below meth c D cy base ρ h0 0 0 5 (MQ below (QR D cy base ρ h0 none X.2) args s 0 0 (fun q => base ≤ q)) 74 [(0, .ref a0), (1, .ref a1), (2, .ref a2), (3, .int v2)] [] h19 := by
              intro h19 hF
              rw [ek74_18] at hF
              exact Jk74_15  _ hF
            have L46_30 : ∀ (fu : Nat) (v20 : Int32) (h21 : PM), F_X7_offerWays_L46 a0 a1 a2 v2 k74_18 fu v20 h21 = some X → WP p l e (rmN 0 0 4) s m args below meth c D cy base ρ h0 0 0 5 (MQ below (QR D cy base ρ h0 none X.2) args s 0 0 (fun q => base ≤ q)) 46 [(0, .ref a0), (1, .ref a1), (2, .ref a2), (3, .int v2), (4, .int v20)] [] h21 := by
              intro fu
              induction fu with
              | zero => intro v20 h21 hF; rw [F_X7_offerWays_L46.eq_1] at hF; cases hF
              | succ fu ih =>
                intro v20 h21 hF
                rw [F_X7_offerWays_L46.eq_2] at hF
                refine r_iload C dX7_offerWays_46 4 rfl ?_
                refine r_aload_n C dX7_offerWays_48 rfl 0 rfl ?_
                refine k_gR C dX7_offerWays_49 fd_X7_13 (by decide) hF (fun x22 hF => ?_)
                refine k_ln C dX7_offerWays_52 hF (fun x23 hF => ?_)
                refine r_icmp_ge (tgt := 74) C dX7_offerWays_53 (by decide) hF (fun hF => ?_) (fun hF => ?_)
                · exact r_sub [0, 1, 2, 3] rfl (Jk74_18  _ hF)
                · refine r_aload_n C dX7_offerWays_56 rfl 0 rfl ?_
                  refine r_aload_n C dX7_offerWays_57 rfl 0 rfl ?_
                  refine k_gR C dX7_offerWays_58 fd_X7_13 (by decide) hF (fun x24 hF => ?_)
                  refine r_iload C dX7_offerWays_61 4 rfl ?_
                  refine k_aR C dX7_offerWays_63 hF (fun x25 hF => ?_)
                  refine r_aload_n C dX7_offerWays_64 rfl 2 rfl ?_
                  obtain ⟨ht, hF⟩ := tst_some hF
                  obtain ⟨r26, h27, hc28, hF⟩ := cl_some hF
                  refine r_callV (As := [.ref x25, .ref a2]) C dX7_offerWays_65 V hT cal_X7_offerTo cls_8 ml_X7_98 im_X7_offerTo se_X7_offerTo ht (by decide) rfl rfl (Nat.le_of_ble_eq_true rfl) (by decide) (by decide) (S_X7_offerTo _ _ hc28) ?_
                  refine r_iinc (v := v20 + 1) C dX7_offerWays_68 4 rfl (congrArg (fun z => v20 + z) (by decide)) (by decide) rfl ?_
                  refine r_goto (tgt := 46) C dX7_offerWays_71 (by decide) ?_
                  exact r_sub [1, 2, 3, 4, 0] rfl (ih _ _ hF)
            exact r_sub [1, 2, 3, 4, 0] rfl (L46_30 _ _ _ hF)
  exact r_sub [1, 2, 3, 0] rfl (L2 _ _ _ hF)
def F_X7_findBest_L72 (c0 : Nat) (c1 : Nat) (c2 : Nat) (c3 : Nat) (c4 : Int32) (c5 : Nat) (k138 : PM → Option (Unit × PM)) : Nat → Int32 → PM → Option (Unit × PM)
  | 0, _, _ => none
  | fu + 1, v19, h20 => if v19 ≤ 0 then (k138 h20) else (gR h20 c0 8 1 fun x21 => pI h20 x21 2 2 v19 fun h22 => gR h22 c0 8 1 fun x23 => gI h22 c5 4 3 fun x24 => pI h22 x23 2 7 (((x24 * v19) * v19) * v19) fun h25 => gR h25 c0 8 1 fun x26 => gR h25 c0 8 1 fun x27 => gI h25 x27 2 7 fun x28 => tst h25 c3 6 (cl (F_X5_worthOf c3 x28 h25) fun r29 h30 => pI h30 x26 2 0 r29 fun h32 => tst h32 c0 8 (cl (F_X7_offerWays c0 c1 c5 h32) fun r33 h34 => F_X7_findBest_L72 c0 c1 c2 c3 c4 c5 k138 fu (v19 + (-1)) h34)))
def F_X7_findBest_L36 (c0 : Nat) (c1 : Nat) (c2 : Nat) (c3 : Nat) (k144 : PM → Option (Unit × PM)) : Nat → Int32 → PM → Option (Unit × PM)
  | 0, _, _ => none
  | fu + 1, v6, h7 => tst h7 c2 0 (cl (F_Jx4a65c_size_8abf5 c2 h7) fun r8 h9 => if r8 ≤ v6 then (k144 h9) else (tst h9 c2 0 (cl (F_Jx4a65c_get_915e3 c2 v6 h9) fun r11 h12 => tst h12 r11 4 (gR h12 c0 8 1 fun x14 => pI h12 x14 2 1 v6 fun h15 => gI h15 r11 4 4 fun x16 => jn (fun  (h17 : PM) => F_X7_findBest_L36 c0 c1 c2 c3 k144 fu (v6 + 1) h17) fun k138 => F_X7_findBest_L72 c0 c1 c2 c3 v6 r11 k138 LF x16 h15))))
def F_X7_findBest_L3 (c0 : Nat) (c1 : Nat) (c2 : Nat) (c3 : Nat) (k33 : PM → Option (Unit × PM)) : Nat → Int32 → PM → Option (Unit × PM)
  | 0, _, _ => none
  | fu + 1, v39, h40 => gR h40 c0 8 0 fun x41 => ln h40 x41 fun x42 => if x42 ≤ v39 then (k33 h40) else (gR h40 c0 8 0 fun x43 => aR h40 x43 v39 fun x44 => gR h40 x44 5 3 fun x45 => pI h40 x45 2 0 0 fun h46 => F_X7_findBest_L3 c0 c1 c2 c3 k33 fu (v39 + 1) h46)
def F_X7_findBest (a0 : Nat) (a1 : Nat) (a2 : Nat) (a3 : Nat) (h0 : PM) : Option (Unit × PM) := jn (fun  (h1 : PM) => jn (fun  (h2 : PM) => tst h2 a0 8 (cl (F_X7_choose a0 a1 h2) fun r3 h4 => some ((), h4))) fun k144 => F_X7_findBest_L36 a0 a1 a2 a3 k144 LF 0 h1) fun k33 => F_X7_findBest_L3 a0 a1 a2 a3 k33 LF 0 h0
set_option maxRecDepth 100000 in
set_option maxHeartbeats 4000000 in
theorem S_X7_findBest {a0 : Nat} {a1 : Nat} {a2 : Nat} {a3 : Nat} {h0 : PM} (r : Unit) (h' : PM) (hF : F_X7_findBest a0 a1 a2 a3 h0 = some (r, h')) : CN yX7_findBest cX7_findBest 7 none 0 0 5 [.ref a0, .ref a1, .ref a2, .ref a3] h0 none h' := by
  obtain ⟨X, eX⟩ : ∃ X, X = (r, h') := ⟨_, rfl⟩
  rw [← eX] at hF
  have e1 : r = X.1 := by rw [eX]
  have e2 : h' = X.2 := by rw [eX]
  rw [e2]
  clear eX e1 e2
  unfold F_X7_findBest at hF
  refine CN_of (by decide) (fun ρ => Nat.le_of_ble_eq_true rfl) rfl ?_
  intro p l e s m args below meth c D cy base ρ hT C V hr hnm
  refine r_iconst (v := 0) C dX7_findBest_0 (by decide) ?_
  refine r_istore C dX7_findBest_1 (by decide) rfl ?_
  obtain ⟨k33, ek33, hF⟩ := jn_some hF
  have Jk33 : ∀  (h1 : PM), k33 h1 = some X → WP p l e (rmN 0 0 5) s m args below meth c D cy base ρ h0 0 0 7 (MQ below (QR D cy base ρ h0 none X.2) args s 0 0 (fun q => base ≤ q)) 33 [(0, .ref a0), (1, .ref a1), (2, .ref a2), (3, .ref a3)] [] h1 := by
    intro h1 hF
    rw [ek33] at hF
    refine r_iconst (v := 0) C dX7_findBest_33 (by decide) ?_
    refine r_istore C dX7_findBest_34 (by decide) rfl ?_
    obtain ⟨k144, ek144, hF⟩ := jn_some hF
    have Jk144 : ∀  (h2 : PM), k144 h2 = some X → WP p l e (rmN 0 0 5) s m args below meth c D cy base ρ h0 0 0 7 (MQ below (QR D cy base ρ h0 none X.2) args s 0 0 (fun q => base ≤ q)) 144 [(0, .ref a0), (1, .ref a1)] [] h2 := by
      intro h2 hF
      rw [ek144] at hF
      refine r_aload_n C dX7_findBest_144 rfl 0 rfl ?_
      refine r_aload_n C dX7_findBest_145 rfl 1 rfl ?_
      obtain ⟨ht, hF⟩ := tst_some hF
      obtain ⟨r3, h4, hc5, hF⟩ := cl_some hF
      refine r_callV (As := [.ref a1]) C dX7_findBest_146 V hT cal_X7_choose cls_8 ml_X7_78 im_X7_choose se_X7_choose ht (by decide) rfl rfl (Nat.le_of_ble_eq_true rfl) (by decide) (by decide) (S_X7_choose _ _ hc5) ?_
      exact k_vret C dX7_findBest_149 hr (by decide) (by decide) hF
    have L36 : ∀ (fu : Nat) (v6 : Int32) (h7 : PM), F_X7_findBest_L36 a0 a1 a2 a3 k144 fu v6 h7 = some X → WP p l e (rmN 0 0 5) s m args below meth c D cy base ρ h0 0 0 7 (MQ below (QR D cy base ρ h0 none X.2) args s 0 0 (fun q => base ≤ q)) 36 [(0, .ref a0), (1, .ref a1), (2, .ref a2), (3, .ref a3), (4, .int v6)] [] h7 := by
      intro fu
      induction fu with
      | zero => intro v6 h7 hF; rw [F_X7_findBest_L36.eq_1] at hF; cases hF
      | succ fu ih =>
        intro v6 h7 hF
        rw [F_X7_findBest_L36.eq_2] at hF
        refine r_iload C dX7_findBest_36 4 rfl ?_
        refine r_aload_n C dX7_findBest_38 rfl 2 rfl ?_
        obtain ⟨ht, hF⟩ := tst_some hF
        obtain ⟨r8, h9, hc10, hF⟩ := cl_some hF
        refine r_callV (As := []) C dX7_findBest_39 V hT cal_Jx4a65c_size_8abf5 cls_0 ml_X7_42 im_Jx4a65c_size_8abf5 se_Jx4a65c_size_8abf5 ht (by decide) rfl rfl (Nat.le_of_ble_eq_true rfl) (by decide) (by decide) (S_Jx4a65c_size_8abf5 _ _ hc10) ?_
        refine r_icmp_ge (tgt := 144) C dX7_findBest_42 (by decide) hF (fun hF => ?_) (fun hF => ?_)
        · exact r_sub [0, 1] rfl (Jk144  _ hF)
        · refine r_aload_n C dX7_findBest_45 rfl 2 rfl ?_
          refine r_iload C dX7_findBest_46 4 rfl ?_
          obtain ⟨ht, hF⟩ := tst_some hF
          obtain ⟨r11, h12, hc13, hF⟩ := cl_some hF
          refine r_callV (As := [.int v6]) C dX7_findBest_48 V hT cal_Jx4a65c_get_915e3 cls_0 ml_X7_48 im_Jx4a65c_get_915e3 se_Jx4a65c_get_915e3 ht (by decide) rfl rfl (Nat.le_of_ble_eq_true rfl) (by decide) (by decide) (S_Jx4a65c_get_915e3 _ _ hc13) ?_
          refine k_cast C dX7_findBest_51 cls_4 cn_X7_52 hF (fun hF => ?_)
          refine r_astore C dX7_findBest_54 (by decide) rfl ?_
          refine r_aload_n C dX7_findBest_56 rfl 1 rfl ?_
          refine k_gR C dX7_findBest_57 fd_X7_20 (by decide) hF (fun x14 hF => ?_)
          refine r_iload C dX7_findBest_60 5 rfl ?_
          refine k_pI C dX7_findBest_62 fd_X7_54 (fun z => by cases z) (by decide) hF (fun h15 hF => ?_)
          refine r_aload C dX7_findBest_65 0 rfl ?_
          refine k_gIr C dX7_findBest_67 fr_X7_57 (by decide) hF (fun x16 hF => ?_)
          refine r_istore C dX7_findBest_70 (by decide) rfl ?_
          obtain ⟨k138_17, ek138_17, hF⟩ := jn_some hF
          have Jk138_17 : ∀  (h18 : PM), k138_17 h18 = some X → WP p l e (rmN 0 0 5) s m args below meth c D cy base ρ h0 0 0 7 (MQ below (QR D cy base ρ h0 none X.2) args s 0 0 (fun q => base ≤ q)) 138 [(0, .ref a0), (1, .ref a1), (2, .ref a2), (3, .ref a3), (4, .int v6)] [] h18 := by
            intro h18 hF
            rw [ek138_17] at hF
            refine r_iinc (v := v6 + 1) C dX7_findBest_138 4 rfl (congrArg (fun z => v6 + z) (by decide)) (by decide) rfl ?_
            refine r_goto (tgt := 36) C dX7_findBest_141 (by decide) ?_
            exact r_sub [1, 2, 3, 4, 0] rfl (ih _ _ hF)
          have L72_38 : ∀ (fu : Nat) (v20 : Int32) (h21 : PM), F_X7_findBest_L72 a0 a1 a2 a3 v6 r11 k138_17 fu v20 h21 = some X → WP p l e (rmN 0 0 5) s m args below meth c D cy base ρ h0 0 0 7 (MQ below (QR D cy base ρ h0 none X.2) args s 0 0 (fun q => base ≤ q)) 72 [(0, .ref a0), (1, .ref a1), (2, .ref a2), (3, .ref a3), (4, .int v6), (5, .ref r11), (6, .int v20)] [] h21 := by
            intro fu
            induction fu with
            | zero => intro v20 h21 hF; rw [F_X7_findBest_L72.eq_1] at hF; cases hF
            | succ fu ih =>
              intro v20 h21 hF
              rw [F_X7_findBest_L72.eq_2] at hF
              refine r_iload C dX7_findBest_72 6 rfl ?_
              refine r_if_le (tgt := 138) C dX7_findBest_74 (by decide) hF (fun hF => ?_) (fun hF => ?_)
              · exact r_sub [0, 1, 2, 3, 4] rfl (Jk138_17  _ hF)
              · refine r_aload_n C dX7_findBest_77 rfl 0 rfl ?_
                refine k_gR C dX7_findBest_78 fd_X7_20 (by decide) hF (fun x22 hF => ?_)
                refine r_iload C dX7_findBest_81 6 rfl ?_
                refine k_pI C dX7_findBest_83 fd_X7_60 (fun z => by cases z) (by decide) hF (fun h23 hF => ?_)
                refine r_aload_n C dX7_findBest_86 rfl 0 rfl ?_
                refine k_gR C dX7_findBest_87 fd_X7_20 (by decide) hF (fun x24 hF => ?_)
                refine r_aload C dX7_findBest_90 5 rfl ?_
                refine k_gIr C dX7_findBest_92 fr_X7_62 (by decide) hF (fun x25 hF => ?_)
                refine r_iload C dX7_findBest_95 6 rfl ?_
                refine r_imul C dX7_findBest_97 ?_
                refine r_iload C dX7_findBest_98 6 rfl ?_
                refine r_imul C dX7_findBest_100 ?_
                refine r_iload C dX7_findBest_101 6 rfl ?_
                refine r_imul C dX7_findBest_103 ?_
                refine k_pI C dX7_findBest_104 fd_X7_65 (fun z => by cases z) (by decide) hF (fun h26 hF => ?_)
                refine r_aload_n C dX7_findBest_107 rfl 0 rfl ?_
                refine k_gR C dX7_findBest_108 fd_X7_20 (by decide) hF (fun x27 hF => ?_)
                refine r_aload_n C dX7_findBest_111 rfl 3 rfl ?_
                refine r_aload_n C dX7_findBest_112 rfl 0 rfl ?_
                refine k_gR C dX7_findBest_113 fd_X7_20 (by decide) hF (fun x28 hF => ?_)
                refine k_gI C dX7_findBest_116 fd_X7_65 (by decide) hF (fun x29 hF => ?_)
                obtain ⟨ht, hF⟩ := tst_some hF
                obtain ⟨r30, h31, hc32, hF⟩ := cl_some hF
                refine r_callV (As := [.int x29]) C dX7_findBest_119 V hT cal_X5_worthOf cls_6 ml_X7_68 im_X5_worthOf se_X5_worthOf ht (by decide) rfl rfl (Nat.le_of_ble_eq_true rfl) (by decide) (by decide) (S_X5_worthOf _ _ hc32) ?_
                refine k_pI C dX7_findBest_122 fd_X7_38 (fun z => by cases z) (by decide) hF (fun h33 hF => ?_)
                refine r_aload_n C dX7_findBest_125 rfl 0 rfl ?_
                refine r_aload_n C dX7_findBest_126 rfl 1 rfl ?_
                refine r_aload C dX7_findBest_127 5 rfl ?_
                obtain ⟨ht, hF⟩ := tst_some hF
                obtain ⟨r34, h35, hc36, hF⟩ := cl_some hF
                refine r_callV (As := [.ref a1, .ref r11]) C dX7_findBest_129 V hT cal_X7_offerWays cls_8 ml_X7_74 im_X7_offerWays se_X7_offerWays ht (by decide) rfl rfl (Nat.le_of_ble_eq_true rfl) (by decide) (by decide) (S_X7_offerWays _ _ hc36) ?_
                refine r_iinc (v := v20 + (-1)) C dX7_findBest_132 6 rfl (congrArg (fun z => v20 + z) (by decide)) (by decide) rfl ?_
                refine r_goto (tgt := 72) C dX7_findBest_135 (by decide) ?_
                exact r_sub [1, 2, 3, 4, 5, 6, 0] rfl (ih _ _ hF)
          exact r_sub [2, 3, 4, 5, 6, 1, 0] rfl (L72_38 _ _ _ hF)
    exact r_sub [1, 2, 3, 4, 0] rfl (L36 _ _ _ hF)
  have L3 : ∀ (fu : Nat) (v39 : Int32) (h40 : PM), F_X7_findBest_L3 a0 a1 a2 a3 k33 fu v39 h40 = some X → WP p l e (rmN 0 0 5) s m args below meth c D cy base ρ h0 0 0 7 (MQ below (QR D cy base ρ h0 none X.2) args s 0 0 (fun q => base ≤ q)) 3 [(0, .ref a0), (1, .ref a1), (2, .ref a2), (3, .ref a3), (4, .int v39)] [] h40 := by
    intro fu
    induction fu with
    | zero => intro v39 h40 hF; rw [F_X7_findBest_L3.eq_1] at hF; cases hF
    | succ fu ih =>
      intro v39 h40 hF
      rw [F_X7_findBest_L3.eq_2] at hF
      refine r_iload C dX7_findBest_3 4 rfl ?_
      refine r_aload_n C dX7_findBest_5 rfl 0 rfl ?_
      refine k_gR C dX7_findBest_6 fd_X7_13 (by decide) hF (fun x41 hF => ?_)
      refine k_ln C dX7_findBest_9 hF (fun x42 hF => ?_)
      refine r_icmp_ge (tgt := 33) C dX7_findBest_10 (by decide) hF (fun hF => ?_) (fun hF => ?_)
      · exact r_sub [0, 1, 2, 3] rfl (Jk33  _ hF)
      · refine r_aload_n C dX7_findBest_13 rfl 0 rfl ?_
        refine k_gR C dX7_findBest_14 fd_X7_13 (by decide) hF (fun x43 hF => ?_)
        refine r_iload C dX7_findBest_17 4 rfl ?_
        refine k_aR C dX7_findBest_19 hF (fun x44 hF => ?_)
        refine k_gRr C dX7_findBest_20 fr_X7_35 (by decide) hF (fun x45 hF => ?_)
        refine r_iconst (v := 0) C dX7_findBest_23 (by decide) ?_
        refine k_pI C dX7_findBest_24 fd_X7_38 (fun z => by cases z) (by decide) hF (fun h46 hF => ?_)
        refine r_iinc (v := v39 + 1) C dX7_findBest_27 4 rfl (congrArg (fun z => v39 + z) (by decide)) (by decide) rfl ?_
        refine r_goto (tgt := 3) C dX7_findBest_30 (by decide) ?_
        exact r_sub [1, 2, 3, 4, 0] rfl (ih _ _ hF)
  exact r_sub [1, 2, 3, 4, 0] rfl (L3 _ _ _ hF)
def F_X8_init (a0 : Nat) (a1 : Int32) (a2 : Nat) (h0 : PM) : Option (Unit × PM) := pZ h0 a0 9 3 0 fun h1 => pI h1 a0 9 4 (-1) fun h2 => pI h2 a0 9 5 (-1) fun h3 => pI h3 a0 9 6 (-1) fun h4 => pI h4 a0 9 7 0 fun h5 => nA h5 ((a0 + 1)) 20 8 fun h6 => pR h6 a0 9 8 ((a0 + 1)) fun h7 => nA h7 ((a0 + 2)) 20 8 fun h8 => pR h8 a0 9 9 ((a0 + 2)) fun h9 => pI h9 a0 9 10 0 fun h10 => pI h10 a0 9 11 0 fun h11 => nA h11 ((a0 + 3)) 20 8 fun h12 => pR h12 a0 9 12 ((a0 + 3)) fun h13 => pI h13 a0 9 0 a1 fun h14 => gI h14 a2 2 1 fun x15 => pI h14 a0 9 1 x15 fun h16 => gI h16 a2 2 7 fun x17 => pI h16 a0 9 2 (1000 * x17) fun h18 => some ((), h18)
set_option maxRecDepth 100000 in
set_option maxHeartbeats 4000000 in
theorem S_X8_init {a0 : Nat} {a1 : Int32} {a2 : Nat} {h0 : PM} (r : Unit) (h' : PM) (hF : F_X8_init a0 a1 a2 h0 = some (r, h')) : CN yX8_init cX8_init 3 none 3 24 1 [.ref a0, .int a1, .ref a2] h0 none h' := by
  obtain ⟨X, eX⟩ : ∃ X, X = (r, h') := ⟨_, rfl⟩
  rw [← eX] at hF
  have e1 : r = X.1 := by rw [eX]
  have e2 : h' = X.2 := by rw [eX]
  rw [e2]
  clear eX e1 e2
  unfold F_X8_init at hF
  refine CN_of (by decide) (fun ρ => Nat.le_of_ble_eq_true rfl) rfl ?_
  intro p l e s m args below meth c D cy base ρ hT C V hr hnm
  refine r_aload_n C dX8_init_0 rfl 0 rfl ?_
  refine r_objInit C dX8_init_1 ml_X8_3 im_obj cd_obj (by decide) (Nat.le_of_ble_eq_true rfl) ?_
  refine r_aload_n C dX8_init_4 rfl 0 rfl ?_
  refine r_iconst (v := 0) C dX8_init_5 (by decide) ?_
  refine k_pZ C dX8_init_6 fd_X8_9 (fun z => by cases z) (by decide) hF (fun h1 hF => ?_)
  refine r_aload_n C dX8_init_9 rfl 0 rfl ?_
  refine r_iconst (v := (-1)) C dX8_init_10 (by decide) ?_
  refine k_pI C dX8_init_11 fd_X8_15 (fun z => by cases z) (by decide) hF (fun h2 hF => ?_)
  refine r_aload_n C dX8_init_14 rfl 0 rfl ?_
  refine r_iconst (v := (-1)) C dX8_init_15 (by decide) ?_
  refine k_pI C dX8_init_16 fd_X8_19 (fun z => by cases z) (by decide) hF (fun h3 hF => ?_)
  refine r_aload_n C dX8_init_19 rfl 0 rfl ?_
  refine r_iconst (v := (-1)) C dX8_init_20 (by decide) ?_
  refine k_pI C dX8_init_21 fd_X8_22 (fun z => by cases z) (by decide) hF (fun h4 hF => ?_)
  refine r_aload_n C dX8_init_24 rfl 0 rfl ?_
  refine r_iconst (v := 0) C dX8_init_25 (by decide) ?_
  refine k_pI C dX8_init_26 fd_X8_25 (fun z => by cases z) (by decide) hF (fun h5 hF => ?_)
  refine r_aload_n C dX8_init_29 rfl 0 rfl ?_
  refine r_bipush (v := 8) C dX8_init_30 (by decide) ?_
  refine k_newi (N := 8) (a := (a0 + 1)) C dX8_init_32 ac_int (by decide) (by decide) (by decide) hF (fun h6 hF => ?_)
  refine k_pR C dX8_init_34 fd_X8_28 (fun _ => hnm) (by decide) hF (fun h7 hF => ?_)
  refine r_aload_n C dX8_init_37 rfl 0 rfl ?_
  refine r_bipush (v := 8) C dX8_init_38 (by decide) ?_
  refine k_newi (N := 8) (a := (a0 + 2)) C dX8_init_40 ac_int (by decide) (by decide) (by decide) hF (fun h8 hF => ?_)
  refine k_pR C dX8_init_42 fd_X8_32 (fun _ => hnm) (by decide) hF (fun h9 hF => ?_)
  refine r_aload_n C dX8_init_45 rfl 0 rfl ?_
  refine r_iconst (v := 0) C dX8_init_46 (by decide) ?_
  refine k_pI C dX8_init_47 fd_X8_35 (fun z => by cases z) (by decide) hF (fun h10 hF => ?_)
  refine r_aload_n C dX8_init_50 rfl 0 rfl ?_
  refine r_iconst (v := 0) C dX8_init_51 (by decide) ?_
  refine k_pI C dX8_init_52 fd_X8_38 (fun z => by cases z) (by decide) hF (fun h11 hF => ?_)
  refine r_aload_n C dX8_init_55 rfl 0 rfl ?_
  refine r_bipush (v := 8) C dX8_init_56 (by decide) ?_
  refine k_newi (N := 8) (a := (a0 + 3)) C dX8_init_58 ac_int (by decide) (by decide) (by decide) hF (fun h12 hF => ?_)
  refine k_pR C dX8_init_60 fd_X8_41 (fun _ => hnm) (by decide) hF (fun h13 hF => ?_)
  refine r_aload_n C dX8_init_63 rfl 0 rfl ?_
  refine r_iload_n C dX8_init_64 rfl 1 rfl ?_
  refine k_pI C dX8_init_65 fd_X8_44 (fun _ => hnm) (by decide) hF (fun h14 hF => ?_)
  refine r_aload_n C dX8_init_68 rfl 0 rfl ?_
  refine r_aload_n C dX8_init_69 rfl 2 rfl ?_
  refine k_gI C dX8_init_70 fd_X8_47 (by decide) hF (fun x15 hF => ?_)
  refine k_pI C dX8_init_73 fd_X8_52 (fun _ => hnm) (by decide) hF (fun h16 hF => ?_)
  refine r_aload_n C dX8_init_76 rfl 0 rfl ?_
  refine r_sipush (v := 1000) C dX8_init_77 (by decide) ?_
  refine r_aload_n C dX8_init_80 rfl 2 rfl ?_
  refine k_gI C dX8_init_81 fd_X8_53 (by decide) hF (fun x17 hF => ?_)
  refine r_imul C dX8_init_84 ?_
  refine k_pI C dX8_init_85 fd_X8_56 (fun z => by cases z) (by decide) hF (fun h18 hF => ?_)
  exact k_vret C dX8_init_88 hr (by decide) (by decide) hF
def F_X8_grind_L2 (c0 : Nat) (k60 : PM → Option (Unit × PM)) : Nat → Int32 → PM → Option (Unit × PM)
  | 0, _, _ => none
  | fu + 1, v3, h4 => gI h4 c0 9 7 fun x5 => if x5 ≤ v3 then (k60 h4) else (if 8 ≤ v3 then (k60 h4) else (gR h4 c0 9 9 fun x6 => gR h4 c0 9 12 fun x7 => aI h4 x7 v3 fun x8 => aI h4 x6 x8 fun x9 => lt_ (x9 + 10) fun x10 => gI h4 c0 9 2 fun x11 => gI h4 c0 9 2 fun x12 => dv 1000 (pI h4 c0 9 2 (x11 - (((x12 * x10) + 999) / 1000)) fun h13 => F_X8_grind_L2 c0 k60 fu (v3 + 1) h13)))
def F_X8_grind (a0 : Nat) (h0 : PM) : Option (Unit × PM) := jn (fun  (h1 : PM) => pZ h1 a0 9 3 1 fun h2 => some ((), h2)) fun k60 => F_X8_grind_L2 a0 k60 LF 0 h0
set_option maxRecDepth 100000 in
set_option maxHeartbeats 4000000 in
theorem S_X8_grind {a0 : Nat} {h0 : PM} (r : Unit) (h' : PM) (hF : F_X8_grind a0 h0 = some (r, h')) : CN yX8_grind cX8_grind 3 none 0 0 0 [.ref a0] h0 none h' := by
  obtain ⟨X, eX⟩ : ∃ X, X = (r, h') := ⟨_, rfl⟩
  rw [← eX] at hF
  have e1 : r = X.1 := by rw [eX]
  have e2 : h' = X.2 := by rw [eX]
  rw [e2]
  clear eX e1 e2
  unfold F_X8_grind at hF
  refine CN_of (by decide) (fun ρ => Nat.le_of_ble_eq_true rfl) rfl ?_
  intro p l e s m args below meth c D cy base ρ hT C V hr hnm
  refine r_iconst (v := 0) C dX8_grind_0 (by decide) ?_
  refine r_istore_n C dX8_grind_1 rfl (by decide) rfl ?_
  obtain ⟨k60, ek60, hF⟩ := jn_some hF
  have Jk60 : ∀  (h1 : PM), k60 h1 = some X → WP p l e (rmN 0 0 0) s m args below meth c D cy base ρ h0 0 0 3 (MQ below (QR D cy base ρ h0 none X.2) args s 0 0 (fun q => base ≤ q)) 60 [(0, .ref a0)] [] h1 := by
    intro h1 hF
    rw [ek60] at hF
    refine r_aload_n C dX8_grind_60 rfl 0 rfl ?_
    refine r_iconst (v := 1) C dX8_grind_61 (by decide) ?_
    refine k_pZ C dX8_grind_62 fd_X8_9 (fun z => by cases z) (by decide) hF (fun h2 hF => ?_)
    exact k_vret C dX8_grind_65 hr (by decide) (by decide) hF
  have L2 : ∀ (fu : Nat) (v3 : Int32) (h4 : PM), F_X8_grind_L2 a0 k60 fu v3 h4 = some X → WP p l e (rmN 0 0 0) s m args below meth c D cy base ρ h0 0 0 3 (MQ below (QR D cy base ρ h0 none X.2) args s 0 0 (fun q => base ≤ q)) 2 [(0, .ref a0), (1, .int v3)] [] h4 := by
    intro fu
    induction fu with
    | zero => intro v3 h4 hF; rw [F_X8_grind_L2.eq_1] at hF; cases hF
    | succ fu ih =>
      intro v3 h4 hF
      rw [F_X8_grind_L2.eq_2] at hF
      refine r_iload_n C dX8_grind_2 rfl 1 rfl ?_
      refine r_aload_n C dX8_grind_3 rfl 0 rfl ?_
      refine k_gI C dX8_grind_4 fd_X8_25 (by decide) hF (fun x5 hF => ?_)
      refine r_icmp_ge (tgt := 60) C dX8_grind_7 (by decide) hF (fun hF => ?_) (fun hF => ?_)
      · exact r_sub [0] rfl (Jk60  _ hF)
      · refine r_iload_n C dX8_grind_10 rfl 1 rfl ?_
        refine r_bipush (v := 8) C dX8_grind_11 (by decide) ?_
        refine r_icmp_ge (tgt := 60) C dX8_grind_13 (by decide) hF (fun hF => ?_) (fun hF => ?_)
        · exact r_sub [0] rfl (Jk60  _ hF)
        · refine r_aload_n C dX8_grind_16 rfl 0 rfl ?_
          refine k_gR C dX8_grind_17 fd_X8_32 (by decide) hF (fun x6 hF => ?_)
          refine r_aload_n C dX8_grind_20 rfl 0 rfl ?_
          refine k_gR C dX8_grind_21 fd_X8_41 (by decide) hF (fun x7 hF => ?_)
          refine r_iload_n C dX8_grind_24 rfl 1 rfl ?_
          refine k_aI C dX8_grind_25 hF (fun x8 hF => ?_)
          refine k_aI C dX8_grind_26 hF (fun x9 hF => ?_)
          refine r_bipush (v := 10) C dX8_grind_27 (by decide) ?_
          refine r_iadd C dX8_grind_29 ?_
          refine k_lti hF (fun x10 hF => ?_)
          refine r_istore_n C dX8_grind_30 rfl (by decide) rfl ?_
          refine r_aload_n C dX8_grind_31 rfl 1 rfl ?_
          refine r_dup C dX8_grind_32 rfl ?_
          refine k_gI C dX8_grind_33 fd_X8_56 (by decide) hF (fun x11 hF => ?_)
          refine r_aload_n C dX8_grind_36 rfl 1 rfl ?_
          refine k_gI C dX8_grind_37 fd_X8_56 (by decide) hF (fun x12 hF => ?_)
          refine r_iload_n C dX8_grind_40 rfl 0 rfl ?_
          refine r_imul C dX8_grind_41 ?_
          refine r_sipush (v := 999) C dX8_grind_42 (by decide) ?_
          refine r_iadd C dX8_grind_45 ?_
          refine r_sipush (v := 1000) C dX8_grind_46 (by decide) ?_
          refine k_idiv C dX8_grind_49 hF (fun hF => ?_)
          refine r_isub C dX8_grind_50 ?_
          refine k_pI C dX8_grind_51 fd_X8_56 (fun z => by cases z) (by decide) hF (fun h13 hF => ?_)
          refine r_iinc (v := v3 + 1) C dX8_grind_54 2 rfl (congrArg (fun z => v3 + z) (by decide)) (by decide) rfl ?_
          refine r_goto (tgt := 2) C dX8_grind_57 (by decide) ?_
          exact r_sub [2, 0] rfl (ih _ _ hF)
  exact r_sub [1, 0] rfl (L2 _ _ _ hF)
def F_X8_tell (a0 : Nat) (a1 : Int32) (h0 : PM) : Option (Int32 × PM) := if a1 = 0 then (gI h0 a0 9 2 fun x1 => some (x1, h0)) else (if a1 = 1 then (gI h0 a0 9 0 fun x2 => some (x2, h0)) else (if a1 = 2 then (gI h0 a0 9 1 fun x3 => some (x3, h0)) else (if a1 = 3 then (gI h0 a0 9 3 fun x4 => jn (fun (s5 : Int32) (h6 : PM) => some (s5, h6)) fun k67 => if x4 = 0 then (k67 0 h0) else (k67 1 h0)) else (if a1 = 4 then (gI h0 a0 9 4 fun x7 => some (x7, h0)) else (if a1 = 5 then (gI h0 a0 9 5 fun x8 => some (x8, h0)) else (gI h0 a0 9 6 fun x9 => some (x9, h0)))))))
set_option maxRecDepth 100000 in
set_option maxHeartbeats 4000000 in
theorem S_X8_tell {a0 : Nat} {a1 : Int32} {h0 : PM} (r : Int32) (h' : PM) (hF : F_X8_tell a0 a1 h0 = some (r, h')) : CN yX8_tell cX8_tell 2 (some .int) 0 0 0 [.ref a0, .int a1] h0 (some (.int r)) h' := by
  obtain ⟨X, eX⟩ : ∃ X, X = (r, h') := ⟨_, rfl⟩
  rw [← eX] at hF
  have e1 : r = X.1 := by rw [eX]
  have e2 : h' = X.2 := by rw [eX]
  rw [e1, e2]
  clear eX e1 e2
  unfold F_X8_tell at hF
  refine CN_of (by decide) (fun ρ => Nat.le_of_ble_eq_true rfl) rfl ?_
  intro p l e s m args below meth c D cy base ρ hT C V hr hnm
  refine r_iload_n C dX8_tell_0 rfl 1 rfl ?_
  by_cases q0 : a1 = 0
  · rw [if_pos q0] at hF
    refine r_tableIn (tgt := 40) C dX8_tell_1 (by rw [q0]; decide) (by rw [q0]; decide) (by rw [q0] <;> rfl) (by decide) ?_
    refine r_aload_n C dX8_tell_40 rfl 0 rfl ?_
    refine k_gI C dX8_tell_41 fd_X8_56 (by decide) hF (fun x1 hF => ?_)
    exact k_iret C dX8_tell_44 hr (by decide) (by decide) hF
  rw [if_neg q0] at hF
  by_cases q1 : a1 = 1
  · rw [if_pos q1] at hF
    refine r_tableIn (tgt := 45) C dX8_tell_1 (by rw [q1]; decide) (by rw [q1]; decide) (by rw [q1] <;> rfl) (by decide) ?_
    refine r_aload_n C dX8_tell_45 rfl 0 rfl ?_
    refine k_gI C dX8_tell_46 fd_X8_44 (by decide) hF (fun x2 hF => ?_)
    exact k_iret C dX8_tell_49 hr (by decide) (by decide) hF
  rw [if_neg q1] at hF
  by_cases q2 : a1 = 2
  · rw [if_pos q2] at hF
    refine r_tableIn (tgt := 50) C dX8_tell_1 (by rw [q2]; decide) (by rw [q2]; decide) (by rw [q2] <;> rfl) (by decide) ?_
    refine r_aload_n C dX8_tell_50 rfl 0 rfl ?_
    refine k_gI C dX8_tell_51 fd_X8_52 (by decide) hF (fun x3 hF => ?_)
    exact k_iret C dX8_tell_54 hr (by decide) (by decide) hF
  rw [if_neg q2] at hF
  by_cases q3 : a1 = 3
  · rw [if_pos q3] at hF
    refine r_tableIn (tgt := 55) C dX8_tell_1 (by rw [q3]; decide) (by rw [q3]; decide) (by rw [q3] <;> rfl) (by decide) ?_
    refine r_aload_n C dX8_tell_55 rfl 0 rfl ?_
    refine k_gI C dX8_tell_56 fd_X8_9 (by decide) hF (fun x4 hF => ?_)
    obtain ⟨k67, ek67, hF⟩ := jn_some hF
    have Jk67 : ∀ (s5 : Int32) (h6 : PM), k67 s5 h6 = some X → WP p l e (rmN 0 0 0) s m args below meth c D cy base ρ h0 0 0 2 (MQ below (QR D cy base ρ h0 (some (.int X.1)) X.2) args s 0 0 (fun q => base ≤ q)) 67 [] [.int s5] h6 := by
      intro s5 h6 hF
      rw [ek67] at hF
      exact k_iret C dX8_tell_67 hr (by decide) (by decide) hF
    refine r_if_eq (tgt := 66) C dX8_tell_59 (by decide) hF (fun hF => ?_) (fun hF => ?_)
    · refine r_iconst (v := 0) C dX8_tell_66 (by decide) ?_
      exact r_sub [] rfl (Jk67 _ _ hF)
    · refine r_iconst (v := 1) C dX8_tell_62 (by decide) ?_
      refine r_goto (tgt := 67) C dX8_tell_63 (by decide) ?_
      exact r_sub [] rfl (Jk67 _ _ hF)
  rw [if_neg q3] at hF
  by_cases q4 : a1 = 4
  · rw [if_pos q4] at hF
    refine r_tableIn (tgt := 68) C dX8_tell_1 (by rw [q4]; decide) (by rw [q4]; decide) (by rw [q4] <;> rfl) (by decide) ?_
    refine r_aload_n C dX8_tell_68 rfl 0 rfl ?_
    refine k_gI C dX8_tell_69 fd_X8_15 (by decide) hF (fun x7 hF => ?_)
    exact k_iret C dX8_tell_72 hr (by decide) (by decide) hF
  rw [if_neg q4] at hF
  by_cases q5 : a1 = 5
  · rw [if_pos q5] at hF
    refine r_tableIn (tgt := 73) C dX8_tell_1 (by rw [q5]; decide) (by rw [q5]; decide) (by rw [q5] <;> rfl) (by decide) ?_
    refine r_aload_n C dX8_tell_73 rfl 0 rfl ?_
    refine k_gI C dX8_tell_74 fd_X8_19 (by decide) hF (fun x8 hF => ?_)
    exact k_iret C dX8_tell_77 hr (by decide) (by decide) hF
  rw [if_neg q5] at hF
  refine r_tableOut (tgt := 78) C dX8_tell_1 ?_ (by decide) ?_
  · have z0 := sw_ne q0; have z1 := sw_ne q1; have z2 := sw_ne q2; have z3 := sw_ne q3; have z4 := sw_ne q4; have z5 := sw_ne q5
    have w0 : ((0 : Int32)).toInt = 0 := (by decide); have w1 : ((1 : Int32)).toInt = 1 := (by decide); have w2 : ((2 : Int32)).toInt = 2 := (by decide); have w3 : ((3 : Int32)).toInt = 3 := (by decide); have w4 : ((4 : Int32)).toInt = 4 := (by decide); have w5 : ((5 : Int32)).toInt = 5 := (by decide)
    omega
  · refine r_aload_n C dX8_tell_78 rfl 0 rfl ?_
    refine k_gI C dX8_tell_79 fd_X8_22 (by decide) hF (fun x9 hF => ?_)
    exact k_iret C dX8_tell_82 hr (by decide) (by decide) hF
