theorem ml_X11_3 : Cond.methodLink RX11 3 objectInit ∈ gw := gwm 99 (by decide +kernel) rfl
theorem cn_X11_9 : Cond.classLink RX11 9 RJx4a65c ∈ gw := gwm 102 (by decide +kernel) rfl
theorem in_Jx4a65c : Cond.instantiable RJx4a65c 3 ∈ gw := gwm 103 (by decide +kernel) rfl
theorem ii_Jx4a65c : Cond.initialized RJx4a65c ∈ gw := gwm 67 (by decide +kernel) rfl
theorem ml_X11_11 : Cond.methodLink RX11 11 yJx4a65c_init_da8c8 ∈ gw := gwm 104 (by decide +kernel) rfl
theorem cal_Jx4a65c_init_da8c8 : Cal yJx4a65c_init_da8c8 cJx4a65c_init_da8c8 1 none 0 := ⟨gwm 106 (by decide +kernel) rfl, gwm 67 (by decide +kernel) rfl, ⟨by decide, by decide, by decide +kernel⟩, by decide⟩
theorem im_Jx4a65c_init_da8c8 : Cond.instanceMethod yJx4a65c_init_da8c8 ∈ gw := gwm 105 (by decide +kernel) rfl
theorem fd_X11_12 : FD RX11 12 12 0 true := ⟨_, _, _, cls_12, by decide, gwm 346 (by decide +kernel) rfl, rfl, fun _ => by first | rfl | contradiction⟩
theorem fd_X11_16 : FD RX11 16 12 1 true := ⟨_, _, _, cls_12, by decide, gwm 347 (by decide +kernel) rfl, rfl, fun _ => by first | rfl | contradiction⟩
theorem fd_X11_19 : FD RX11 19 12 2 true := ⟨_, _, _, cls_12, by decide, gwm 348 (by decide +kernel) rfl, rfl, fun _ => by first | rfl | contradiction⟩
theorem cn_X11_22 : Cond.classLink RX11 22 RX9 ∈ gw := gwm 128 (by decide +kernel) rfl
theorem in_X9 : Cond.instantiable RX9 9 ∈ gw := gwm 129 (by decide +kernel) rfl
theorem ii_X9 : Cond.initialized RX9 ∈ gw := gwm 68 (by decide +kernel) rfl
theorem mn_X11_24 : Cond.methodLinkNest RX11 24 yX9_init "RoughStones" ∈ nw := nwm 130 (by decide +kernel) rfl
theorem cal_X9_init : Cal yX9_init cX9_init 1 none 0 := ⟨gwm 132 (by decide +kernel) rfl, gwm 68 (by decide +kernel) rfl, ⟨by decide, by decide, by decide +kernel⟩, by decide⟩
theorem im_X9_init : Cond.instanceMethod yX9_init ∈ gw := gwm 131 (by decide +kernel) rfl
theorem fd_X11_25 : FD RX11 25 12 3 true := ⟨_, _, _, cls_12, by decide, gwm 349 (by decide +kernel) rfl, rfl, fun _ => by first | rfl | contradiction⟩
theorem cn_X11_29 : Cond.classLink RX11 29 RX5 ∈ gw := gwm 170 (by decide +kernel) rfl
theorem in_X5 : Cond.instantiable RX5 3 ∈ gw := gwm 171 (by decide +kernel) rfl
theorem ii_X5 : Cond.initialized RX5 ∈ gw := gwm 69 (by decide +kernel) rfl
theorem mn_X11_31 : Cond.methodLinkNest RX11 31 yX5_init "RoughStones" ∈ nw := nwm 172 (by decide +kernel) rfl
theorem cal_X5_init : Cal yX5_init cX5_init 1 none 0 := ⟨gwm 174 (by decide +kernel) rfl, gwm 69 (by decide +kernel) rfl, ⟨by decide, by decide, by decide +kernel⟩, by decide⟩
theorem im_X5_init : Cond.instanceMethod yX5_init ∈ gw := gwm 173 (by decide +kernel) rfl
theorem fd_X11_32 : FD RX11 32 12 4 true := ⟨_, _, _, cls_12, by decide, gwm 350 (by decide +kernel) rfl, rfl, fun _ => by first | rfl | contradiction⟩
theorem cn_X11_36 : Cond.classLink RX11 36 RX7 ∈ gw := gwm 187 (by decide +kernel) rfl
theorem in_X7 : Cond.instantiable RX7 4 ∈ gw := gwm 188 (by decide +kernel) rfl
theorem ii_X7 : Cond.initialized RX7 ∈ gw := gwm 70 (by decide +kernel) rfl
theorem ml_X11_38 : Cond.methodLink RX11 38 yX7_init ∈ gw := gwm 189 (by decide +kernel) rfl
theorem cal_X7_init : Cal yX7_init cX7_init 4 none 0 := ⟨gwm 191 (by decide +kernel) rfl, gwm 70 (by decide +kernel) rfl, ⟨by decide, by decide, by decide +kernel⟩, by decide⟩
theorem im_X7_init : Cond.instanceMethod yX7_init ∈ gw := gwm 190 (by decide +kernel) rfl
theorem fd_X11_39 : FD RX11 39 12 5 true := ⟨_, _, _, cls_12, by decide, gwm 351 (by decide +kernel) rfl, rfl, fun _ => by first | rfl | contradiction⟩
theorem cn_X11_43 : Cond.classLink RX11 43 RX10 ∈ gw := gwm 278 (by decide +kernel) rfl
theorem in_X10 : Cond.instantiable RX10 3 ∈ gw := gwm 279 (by decide +kernel) rfl
theorem ii_X10 : Cond.initialized RX10 ∈ gw := gwm 73 (by decide +kernel) rfl
theorem mn_X11_45 : Cond.methodLinkNest RX11 45 yX10_init "RoughStones" ∈ nw := nwm 280 (by decide +kernel) rfl
theorem cal_X10_init : Cal yX10_init cX10_init 1 none 0 := ⟨gwm 282 (by decide +kernel) rfl, gwm 73 (by decide +kernel) rfl, ⟨by decide, by decide, by decide +kernel⟩, by decide⟩
theorem im_X10_init : Cond.instanceMethod yX10_init ∈ gw := gwm 281 (by decide +kernel) rfl
theorem fd_X11_46 : FD RX11 46 12 6 true := ⟨_, _, _, cls_12, by decide, gwm 352 (by decide +kernel) rfl, rfl, fun _ => by first | rfl | contradiction⟩
theorem cn_X11_50 : Cond.classLink RX11 50 RX2 ∈ gw := gwm 294 (by decide +kernel) rfl
theorem in_X2 : Cond.instantiable RX2 4 ∈ gw := gwm 295 (by decide +kernel) rfl
theorem ii_X2 : Cond.initialized RX2 ∈ gw := gwm 74 (by decide +kernel) rfl
theorem mn_X11_52 : Cond.methodLinkNest RX11 52 yX2_init "RoughStones" ∈ nw := nwm 296 (by decide +kernel) rfl
theorem cal_X2_init : Cal yX2_init cX2_init 1 none 0 := ⟨gwm 298 (by decide +kernel) rfl, gwm 74 (by decide +kernel) rfl, ⟨by decide, by decide, by decide +kernel⟩, by decide⟩
theorem im_X2_init : Cond.instanceMethod yX2_init ∈ gw := gwm 297 (by decide +kernel) rfl
theorem fd_X11_53 : FD RX11 53 12 7 true := ⟨_, _, _, cls_12, by decide, gwm 353 (by decide +kernel) rfl, rfl, fun _ => by first | rfl | contradiction⟩
theorem cn_X11_57 : Cond.classLink RX11 57 RX0 ∈ gw := gwm 313 (by decide +kernel) rfl
theorem in_X0 : Cond.instantiable RX0 8 ∈ gw := gwm 314 (by decide +kernel) rfl
theorem ii_X0 : Cond.initialized RX0 ∈ gw := gwm 75 (by decide +kernel) rfl
theorem mn_X11_59 : Cond.methodLinkNest RX11 59 yX0_init "RoughStones" ∈ nw := nwm 315 (by decide +kernel) rfl
theorem cal_X0_init : Cal yX0_init cX0_init 1 none 0 := ⟨gwm 317 (by decide +kernel) rfl, gwm 75 (by decide +kernel) rfl, ⟨by decide, by decide, by decide +kernel⟩, by decide⟩
theorem im_X0_init : Cond.instanceMethod yX0_init ∈ gw := gwm 316 (by decide +kernel) rfl
theorem fd_X11_60 : FD RX11 60 12 8 true := ⟨_, _, _, cls_12, by decide, gwm 354 (by decide +kernel) rfl, rfl, fun _ => by first | rfl | contradiction⟩
theorem fd_X11_64 : FD RX11 64 12 9 false := ⟨_, _, _, cls_12, by decide, gwm 355 (by decide +kernel) rfl, rfl, fun _ => by first | rfl | contradiction⟩
theorem ml_X11_68 : Cond.methodLink RX11 68 yJx4a65c_size_8abf5 ∈ gw := gwm 381 (by decide +kernel) rfl
theorem cn_X11_72 : Cond.classLink RX11 72 RX6 ∈ gw := gwm 385 (by decide +kernel) rfl
theorem in_X6 : Cond.instantiable RX6 8 ∈ gw := gwm 386 (by decide +kernel) rfl
theorem ii_X6 : Cond.initialized RX6 ∈ gw := gwm 77 (by decide +kernel) rfl
theorem mn_X11_74 : Cond.methodLinkNest RX11 74 yX6_init "RoughStones" ∈ nw := nwm 387 (by decide +kernel) rfl
theorem cal_X6_init : Cal yX6_init cX6_init 1 none 0 := ⟨gwm 389 (by decide +kernel) rfl, gwm 77 (by decide +kernel) rfl, ⟨by decide, by decide, by decide +kernel⟩, by decide⟩
theorem im_X6_init : Cond.instanceMethod yX6_init ∈ gw := gwm 388 (by decide +kernel) rfl
theorem ml_X11_75 : Cond.methodLink RX11 75 yJx4a65c_add_9ea2d ∈ gw := gwm 428 (by decide +kernel) rfl
theorem cal_Jx4a65c_add_9ea2d : Cal yJx4a65c_add_9ea2d cJx4a65c_add_9ea2d 2 (some .boolean) 1 := ⟨gwm 431 (by decide +kernel) rfl, gwm 67 (by decide +kernel) rfl, ⟨by decide, by decide, by decide +kernel⟩, by decide⟩
theorem im_Jx4a65c_add_9ea2d : Cond.instanceMethod yJx4a65c_add_9ea2d ∈ gw := gwm 429 (by decide +kernel) rfl
theorem se_Jx4a65c_add_9ea2d : Cond.selects RJx4a65c yJx4a65c_add_9ea2d yJx4a65c_add_9ea2d ∈ gw := gwm 430 (by decide +kernel) rfl
theorem cl_X11_325 : Cond.constantLong RX11 325 (-68719476736) ∈ gw := gwm 691 (by decide +kernel) rfl
theorem tk_X11_1_83_87 : ThK RX11 83 87 1 ["java/lang/RuntimeException", "java/lang/Exception"] := ⟨by decide +kernel, by decide +kernel, gwm 618 (by decide +kernel) rfl, gwm 85 (by decide +kernel) rfl, by decide +kernel, by decide +kernel, by decide +kernel, by decide⟩
theorem sx_X11_302 : (RX11, 302, "no such rough") ∈ strL := by decide +kernel
theorem ml_X11_166 : Cond.methodLink RX11 166 yJx4a65c_get_915e3 ∈ gw := gwm 587 (by decide +kernel) rfl
theorem ml_X11_79 : Cond.methodLink RX11 79 yX11_roughOf ∈ gw := gwm 614 (by decide +kernel) rfl
theorem cal_X11_roughOf : Cal yX11_roughOf cX11_roughOf 2 (some (.object "RoughStones$Rough")) 1 := ⟨gwm 617 (by decide +kernel) rfl, gwm 64 (by decide +kernel) rfl, ⟨by decide, by decide, by decide +kernel⟩, by decide⟩
theorem im_X11_roughOf : Cond.instanceMethod yX11_roughOf ∈ gw := gwm 616 (by decide +kernel) rfl
theorem se_X11_roughOf : Cond.selects RX11 yX11_roughOf yX11_roughOf ∈ gw := gwm 12 (by decide +kernel) rfl
theorem sx_X11_85 : (RX11, 85, "no such layer") ∈ strL := by decide +kernel
theorem ml_X11_90 : Cond.methodLink RX11 90 yX11_isNoLayer ∈ gw := gwm 688 (by decide +kernel) rfl
theorem cal_X11_isNoLayer : Cal yX11_isNoLayer cX11_isNoLayer 2 (some .boolean) 1 := ⟨gwm 690 (by decide +kernel) rfl, gwm 64 (by decide +kernel) rfl, ⟨by decide, by decide, by decide +kernel⟩, by decide⟩
theorem sm_X11_isNoLayer : Cond.static yX11_isNoLayer ∈ gw := gwm 689 (by decide +kernel) rfl
theorem tk_X11_2_94_98 : ThK RX11 94 98 2 ["java/lang/RuntimeException", "java/lang/Exception"] := ⟨by decide +kernel, by decide +kernel, gwm 692 (by decide +kernel) rfl, gwm 88 (by decide +kernel) rfl, by decide +kernel, by decide +kernel, by decide +kernel, by decide⟩
theorem sx_X11_96 : (RX11, 96, "bits beyond a layer") ∈ strL := by decide +kernel
theorem fr_X11_99 : FDr RX11 99 7 0 := ⟨_, _, _, cls_7, by decide, gwm 395 (by decide +kernel) rfl⟩
theorem cl_X11_103 : Cond.constantLong RX11 103 (-1) ∈ gw := gwm 708 (by decide +kernel) rfl
theorem fd_X11_105 : FD RX11 105 7 1 false := ⟨_, _, _, cls_7, by decide, gwm 397 (by decide +kernel) rfl, rfl, fun _ => by first | rfl | contradiction⟩
theorem fd_X11_115 : FD RX11 115 10 1 false := ⟨_, _, _, cls_10, by decide, gwm 136 (by decide +kernel) rfl, rfl, fun _ => by first | rfl | contradiction⟩
theorem ml_X11_118 : Cond.methodLink RX11 118 yX9_append ∈ gw := gwm 497 (by decide +kernel) rfl
theorem cal_X9_append : Cal yX9_append cX9_append 3 none 1 := ⟨gwm 500 (by decide +kernel) rfl, gwm 68 (by decide +kernel) rfl, ⟨by decide, by decide, by decide +kernel⟩, by decide⟩
theorem im_X9_append : Cond.instanceMethod yX9_append ∈ gw := gwm 498 (by decide +kernel) rfl
theorem se_X9_append : Cond.selects RX9 yX9_append yX9_append ∈ gw := gwm 499 (by decide +kernel) rfl
theorem sx_X11_122 : (RX11, 122, "not so many bytes on the tape") ∈ strL := by decide +kernel
theorem ml_X11_129 : Cond.methodLink RX11 129 yX9_readModel ∈ gw := gwm 741 (by decide +kernel) rfl
theorem cal_X9_readModel : Cal yX9_readModel cX9_readModel 3 (some .boolean) 1 := ⟨gwm 744 (by decide +kernel) rfl, gwm 68 (by decide +kernel) rfl, ⟨by decide, by decide, by decide +kernel⟩, by decide⟩
theorem im_X9_readModel : Cond.instanceMethod yX9_readModel ∈ gw := gwm 742 (by decide +kernel) rfl
theorem se_X9_readModel : Cond.selects RX9 yX9_readModel yX9_readModel ∈ gw := gwm 743 (by decide +kernel) rfl
theorem cn_X11_136 : Cond.classLink RX11 136 RX3 ∈ gw := gwm 761 (by decide +kernel) rfl
theorem in_X3 : Cond.instantiable RX3 5 ∈ gw := gwm 762 (by decide +kernel) rfl
theorem ii_X3 : Cond.initialized RX3 ∈ gw := gwm 91 (by decide +kernel) rfl
theorem ml_X11_138 : Cond.methodLink RX11 138 yX3_init ∈ gw := gwm 763 (by decide +kernel) rfl
theorem cal_X3_init : Cal yX3_init cX3_init 7 none 1 := ⟨gwm 765 (by decide +kernel) rfl, gwm 91 (by decide +kernel) rfl, ⟨by decide, by decide, by decide +kernel⟩, by decide⟩
theorem im_X3_init : Cond.instanceMethod yX3_init ∈ gw := gwm 764 (by decide +kernel) rfl
theorem ml_X11_141 : Cond.methodLink RX11 141 yX11_forgetCuts ∈ gw := gwm 815 (by decide +kernel) rfl
theorem cal_X11_forgetCuts : Cal yX11_forgetCuts cX11_forgetCuts 2 none 0 := ⟨gwm 818 (by decide +kernel) rfl, gwm 64 (by decide +kernel) rfl, ⟨by decide, by decide, by decide +kernel⟩, by decide⟩
theorem im_X11_forgetCuts : Cond.instanceMethod yX11_forgetCuts ∈ gw := gwm 817 (by decide +kernel) rfl
theorem se_X11_forgetCuts : Cond.selects RX11 yX11_forgetCuts yX11_forgetCuts ∈ gw := gwm 20 (by decide +kernel) rfl
theorem fd_X11_133 : FD RX11 133 10 2 false := ⟨_, _, _, cls_10, by decide, gwm 138 (by decide +kernel) rfl, rfl, fun _ => by first | rfl | contradiction⟩
theorem tk_X11_3_124_128 : ThK RX11 124 128 3 ["java/lang/RuntimeException", "java/lang/Exception"] := ⟨by decide +kernel, by decide +kernel, gwm 725 (by decide +kernel) rfl, gwm 90 (by decide +kernel) rfl, by decide +kernel, by decide +kernel, by decide +kernel, by decide⟩
theorem sx_X11_126 : (RX11, 126, "no more models") ∈ strL := by decide +kernel
theorem sx_X11_144 : (RX11, 144, "no such step") ∈ strL := by decide +kernel
theorem ml_X11_146 : Cond.methodLink RX11 146 yX5_put ∈ gw := gwm 827 (by decide +kernel) rfl
theorem cal_X5_put : Cal yX5_put cX5_put 4 (some .boolean) 2 := ⟨gwm 830 (by decide +kernel) rfl, gwm 69 (by decide +kernel) rfl, ⟨by decide, by decide, by decide +kernel⟩, by decide⟩
theorem im_X5_put : Cond.instanceMethod yX5_put ∈ gw := gwm 828 (by decide +kernel) rfl
theorem se_X5_put : Cond.selects RX5 yX5_put yX5_put ∈ gw := gwm 829 (by decide +kernel) rfl
theorem fd_X11_150 : FD RX11 150 6 2 false := ⟨_, _, _, cls_6, by decide, gwm 179 (by decide +kernel) rfl, rfl, fun _ => by first | rfl | contradiction⟩
theorem sx_X11_153 : (RX11, 153, "no such weight") ∈ strL := by decide +kernel
theorem ml_X11_155 : Cond.methodLink RX11 155 yX5_worthOf ∈ gw := gwm 839 (by decide +kernel) rfl
theorem tk_X11_4_159_163 : ThN RX11 159 163 := ⟨gwm 851 (by decide +kernel) rfl, gwm 92 (by decide +kernel) rfl, by decide +kernel, by decide +kernel, by decide +kernel⟩
theorem sx_X11_161 : (RX11, 161, "no such model") ∈ strL := by decide +kernel
theorem sx_X11_164 : (RX11, 164, "no such way") ∈ strL := by decide +kernel
theorem fr_X11_170 : FDr RX11 170 4 4 := ⟨_, _, _, cls_4, by decide, gwm 803 (by decide +kernel) rfl⟩
theorem ml_X11_173 : Cond.methodLink RX11 173 yX7_search ∈ gw := gwm 868 (by decide +kernel) rfl
theorem ml_X11_304 : Cond.methodLink RX11 304 yX7_findBest ∈ gw := gwm 894 (by decide +kernel) rfl
theorem cal_X7_findBest : Cal yX7_findBest cX7_findBest 7 none 3 := ⟨gwm 897 (by decide +kernel) rfl, gwm 70 (by decide +kernel) rfl, ⟨by decide, by decide, by decide +kernel⟩, by decide⟩
theorem im_X7_findBest : Cond.instanceMethod yX7_findBest ∈ gw := gwm 895 (by decide +kernel) rfl
theorem se_X7_findBest : Cond.selects RX7 yX7_findBest yX7_findBest ∈ gw := gwm 896 (by decide +kernel) rfl
theorem ml_X11_177 : Cond.methodLink RX11 177 yX11_sawnRough ∈ gw := gwm 890 (by decide +kernel) rfl
theorem cal_X11_sawnRough : Cal yX11_sawnRough cX11_sawnRough 3 (some (.object "RoughStones$Rough")) 1 := ⟨gwm 893 (by decide +kernel) rfl, gwm 64 (by decide +kernel) rfl, ⟨by decide, by decide, by decide +kernel⟩, by decide⟩
theorem im_X11_sawnRough : Cond.instanceMethod yX11_sawnRough ∈ gw := gwm 892 (by decide +kernel) rfl
theorem se_X11_sawnRough : Cond.selects RX11 yX11_sawnRough yX11_sawnRough ∈ gw := gwm 22 (by decide +kernel) rfl
theorem fd_X11_180 : FD RX11 180 7 4 false := ⟨_, _, _, cls_7, by decide, gwm 404 (by decide +kernel) rfl, rfl, fun _ => by first | rfl | contradiction⟩
theorem sx_X11_183 : (RX11, 183, "no such thing of a sawing") ∈ strL := by decide +kernel
theorem fd_X11_185 : FD RX11 185 7 2 false := ⟨_, _, _, cls_7, by decide, gwm 399 (by decide +kernel) rfl, rfl, fun _ => by first | rfl | contradiction⟩
theorem fd_X11_188 : FD RX11 188 7 3 false := ⟨_, _, _, cls_7, by decide, gwm 401 (by decide +kernel) rfl, rfl, fun _ => by first | rfl | contradiction⟩
theorem fd_X11_189 : FD RX11 189 7 5 false := ⟨_, _, _, cls_7, by decide, gwm 406 (by decide +kernel) rfl, rfl, fun _ => by first | rfl | contradiction⟩
theorem sx_X11_192 : (RX11, 192, "no such thing of a cut") ∈ strL := by decide +kernel
theorem fr_X11_203 : FDr RX11 203 7 7 := ⟨_, _, _, cls_7, by decide, gwm 410 (by decide +kernel) rfl⟩
theorem ml_X11_198 : Cond.methodLink RX11 198 yX1_tell ∈ gw := gwm 954 (by decide +kernel) rfl
theorem cal_X1_tell : Cal yX1_tell cX1_tell 2 (some .int) 1 := ⟨gwm 957 (by decide +kernel) rfl, gwm 71 (by decide +kernel) rfl, ⟨by decide, by decide, by decide +kernel⟩, by decide⟩
theorem im_X1_tell : Cond.instanceMethod yX1_tell ∈ gw := gwm 955 (by decide +kernel) rfl
theorem se_X1_tell : Cond.selects RX1 yX1_tell yX1_tell ∈ gw := gwm 956 (by decide +kernel) rfl
theorem fr_X11_194 : FDr RX11 194 7 6 := ⟨_, _, _, cls_7, by decide, gwm 408 (by decide +kernel) rfl⟩
theorem cn_X11_206 : Cond.classLink RX11 206 RX8 ∈ gw := gwm 588 (by decide +kernel) rfl
theorem in_X8 : Cond.instantiable RX8 13 ∈ gw := gwm 965 (by decide +kernel) rfl
theorem ii_X8 : Cond.initialized RX8 ∈ gw := gwm 93 (by decide +kernel) rfl
theorem ml_X11_208 : Cond.methodLink RX11 208 yX8_init ∈ gw := gwm 966 (by decide +kernel) rfl
theorem cal_X8_init : Cal yX8_init cX8_init 3 none 2 := ⟨gwm 968 (by decide +kernel) rfl, gwm 93 (by decide +kernel) rfl, ⟨by decide, by decide, by decide +kernel⟩, by decide⟩
theorem im_X8_init : Cond.instanceMethod yX8_init ∈ gw := gwm 967 (by decide +kernel) rfl
theorem sx_X11_308 : (RX11, 308, "no such stone") ∈ strL := by decide +kernel
theorem dX11_init_0 : decode cX11_init 0 = .ok (.aload_n 0, 1) := by decide +kernel
theorem dX11_init_1 : decode cX11_init 1 = .ok (.invokespecial 3, 3) := by decide +kernel
theorem dX11_init_4 : decode cX11_init 4 = .ok (.aload_n 0, 1) := by decide +kernel
theorem dX11_init_5 : decode cX11_init 5 = .ok (.new 9, 3) := by decide +kernel
theorem dX11_init_8 : decode cX11_init 8 = .ok (.dup, 1) := by decide +kernel
theorem dX11_init_9 : decode cX11_init 9 = .ok (.invokespecial 11, 3) := by decide +kernel
theorem dX11_init_12 : decode cX11_init 12 = .ok (.putfield 12, 3) := by decide +kernel
theorem dX11_init_15 : decode cX11_init 15 = .ok (.aload_n 0, 1) := by decide +kernel
theorem dX11_init_16 : decode cX11_init 16 = .ok (.new 9, 3) := by decide +kernel
theorem dX11_init_19 : decode cX11_init 19 = .ok (.dup, 1) := by decide +kernel
theorem dX11_init_20 : decode cX11_init 20 = .ok (.invokespecial 11, 3) := by decide +kernel
theorem dX11_init_23 : decode cX11_init 23 = .ok (.putfield 16, 3) := by decide +kernel
theorem dX11_init_26 : decode cX11_init 26 = .ok (.aload_n 0, 1) := by decide +kernel
theorem dX11_init_27 : decode cX11_init 27 = .ok (.new 9, 3) := by decide +kernel
theorem dX11_init_30 : decode cX11_init 30 = .ok (.dup, 1) := by decide +kernel
theorem dX11_init_31 : decode cX11_init 31 = .ok (.invokespecial 11, 3) := by decide +kernel
theorem dX11_init_34 : decode cX11_init 34 = .ok (.putfield 19, 3) := by decide +kernel
theorem dX11_init_37 : decode cX11_init 37 = .ok (.aload_n 0, 1) := by decide +kernel
theorem dX11_init_38 : decode cX11_init 38 = .ok (.new 22, 3) := by decide +kernel
theorem dX11_init_41 : decode cX11_init 41 = .ok (.dup, 1) := by decide +kernel
theorem dX11_init_42 : decode cX11_init 42 = .ok (.invokespecial 24, 3) := by decide +kernel
theorem dX11_init_45 : decode cX11_init 45 = .ok (.putfield 25, 3) := by decide +kernel
theorem dX11_init_48 : decode cX11_init 48 = .ok (.aload_n 0, 1) := by decide +kernel
theorem dX11_init_49 : decode cX11_init 49 = .ok (.new 29, 3) := by decide +kernel
theorem dX11_init_52 : decode cX11_init 52 = .ok (.dup, 1) := by decide +kernel
theorem dX11_init_53 : decode cX11_init 53 = .ok (.invokespecial 31, 3) := by decide +kernel
theorem dX11_init_56 : decode cX11_init 56 = .ok (.putfield 32, 3) := by decide +kernel
theorem dX11_init_59 : decode cX11_init 59 = .ok (.aload_n 0, 1) := by decide +kernel
theorem dX11_init_60 : decode cX11_init 60 = .ok (.new 36, 3) := by decide +kernel
theorem dX11_init_63 : decode cX11_init 63 = .ok (.dup, 1) := by decide +kernel
theorem dX11_init_64 : decode cX11_init 64 = .ok (.invokespecial 38, 3) := by decide +kernel
theorem dX11_init_67 : decode cX11_init 67 = .ok (.putfield 39, 3) := by decide +kernel
theorem dX11_init_70 : decode cX11_init 70 = .ok (.aload_n 0, 1) := by decide +kernel
theorem dX11_init_71 : decode cX11_init 71 = .ok (.new 43, 3) := by decide +kernel
theorem dX11_init_74 : decode cX11_init 74 = .ok (.dup, 1) := by decide +kernel
theorem dX11_init_75 : decode cX11_init 75 = .ok (.invokespecial 45, 3) := by decide +kernel
theorem dX11_init_78 : decode cX11_init 78 = .ok (.putfield 46, 3) := by decide +kernel
theorem dX11_init_81 : decode cX11_init 81 = .ok (.aload_n 0, 1) := by decide +kernel
theorem dX11_init_82 : decode cX11_init 82 = .ok (.new 50, 3) := by decide +kernel
theorem dX11_init_85 : decode cX11_init 85 = .ok (.dup, 1) := by decide +kernel
theorem dX11_init_86 : decode cX11_init 86 = .ok (.invokespecial 52, 3) := by decide +kernel
theorem dX11_init_89 : decode cX11_init 89 = .ok (.putfield 53, 3) := by decide +kernel
theorem dX11_init_92 : decode cX11_init 92 = .ok (.aload_n 0, 1) := by decide +kernel
theorem dX11_init_93 : decode cX11_init 93 = .ok (.new 57, 3) := by decide +kernel
theorem dX11_init_96 : decode cX11_init 96 = .ok (.dup, 1) := by decide +kernel
theorem dX11_init_97 : decode cX11_init 97 = .ok (.invokespecial 59, 3) := by decide +kernel
theorem dX11_init_100 : decode cX11_init 100 = .ok (.putfield 60, 3) := by decide +kernel
theorem dX11_init_103 : decode cX11_init 103 = .ok (.aload_n 0, 1) := by decide +kernel
theorem dX11_init_104 : decode cX11_init 104 = .ok (.iconst 0, 1) := by decide +kernel
theorem dX11_init_105 : decode cX11_init 105 = .ok (.putfield 64, 3) := by decide +kernel
theorem dX11_init_108 : decode cX11_init 108 = .ok (.return_, 1) := by decide +kernel
theorem dX11_rough_0 : decode cX11_rough 0 = .ok (.aload_n 0, 1) := by decide +kernel
theorem dX11_rough_1 : decode cX11_rough 1 = .ok (.getfield 12, 3) := by decide +kernel
theorem dX11_rough_4 : decode cX11_rough 4 = .ok (.invokevirtual 68, 3) := by decide +kernel
theorem dX11_rough_7 : decode cX11_rough 7 = .ok (.istore_n 1, 1) := by decide +kernel
theorem dX11_rough_8 : decode cX11_rough 8 = .ok (.iload_n 1, 1) := by decide +kernel
theorem dX11_rough_9 : decode cX11_rough 9 = .ok (.bipush 10, 2) := by decide +kernel
theorem dX11_rough_11 : decode cX11_rough 11 = .ok (.if_icmp .lt 5, 3) := by decide +kernel
theorem dX11_rough_14 : decode cX11_rough 14 = .ok (.iconst (-1), 1) := by decide +kernel
theorem dX11_rough_15 : decode cX11_rough 15 = .ok (.ireturn, 1) := by decide +kernel
theorem dX11_rough_16 : decode cX11_rough 16 = .ok (.aload_n 0, 1) := by decide +kernel
theorem dX11_rough_17 : decode cX11_rough 17 = .ok (.getfield 12, 3) := by decide +kernel
theorem dX11_rough_20 : decode cX11_rough 20 = .ok (.new 72, 3) := by decide +kernel
theorem dX11_rough_23 : decode cX11_rough 23 = .ok (.dup, 1) := by decide +kernel
theorem dX11_rough_24 : decode cX11_rough 24 = .ok (.invokespecial 74, 3) := by decide +kernel
theorem dX11_rough_27 : decode cX11_rough 27 = .ok (.invokevirtual 75, 3) := by decide +kernel
theorem dX11_rough_30 : decode cX11_rough 30 = .ok (.pop, 1) := by decide +kernel
theorem dX11_rough_31 : decode cX11_rough 31 = .ok (.iload_n 1, 1) := by decide +kernel
theorem dX11_rough_32 : decode cX11_rough 32 = .ok (.ireturn, 1) := by decide +kernel
theorem dX11_isNoLayer_0 : decode cX11_isNoLayer 0 = .ok (.lload_n 0, 1) := by decide +kernel
theorem dX11_isNoLayer_1 : decode cX11_isNoLayer 1 = .ok (.ldc2_w 325, 3) := by decide +kernel
theorem dX11_isNoLayer_4 : decode cX11_isNoLayer 4 = .ok (.land, 1) := by decide +kernel
theorem dX11_isNoLayer_5 : decode cX11_isNoLayer 5 = .ok (.lconst 0, 1) := by decide +kernel
theorem dX11_isNoLayer_6 : decode cX11_isNoLayer 6 = .ok (.lcmp, 1) := by decide +kernel
theorem dX11_isNoLayer_7 : decode cX11_isNoLayer 7 = .ok (.ifCond .eq 7, 3) := by decide +kernel
theorem dX11_isNoLayer_10 : decode cX11_isNoLayer 10 = .ok (.iconst 1, 1) := by decide +kernel
theorem dX11_isNoLayer_11 : decode cX11_isNoLayer 11 = .ok (.goto 4, 3) := by decide +kernel
theorem dX11_isNoLayer_14 : decode cX11_isNoLayer 14 = .ok (.iconst 0, 1) := by decide +kernel
theorem dX11_isNoLayer_15 : decode cX11_isNoLayer 15 = .ok (.ireturn, 1) := by decide +kernel
theorem dX11_roughOf_0 : decode cX11_roughOf 0 = .ok (.iload_n 1, 1) := by decide +kernel
theorem dX11_roughOf_1 : decode cX11_roughOf 1 = .ok (.ifCond .lt 14, 3) := by decide +kernel
theorem dX11_roughOf_4 : decode cX11_roughOf 4 = .ok (.iload_n 1, 1) := by decide +kernel
theorem dX11_roughOf_5 : decode cX11_roughOf 5 = .ok (.aload_n 0, 1) := by decide +kernel
theorem dX11_roughOf_6 : decode cX11_roughOf 6 = .ok (.getfield 12, 3) := by decide +kernel
theorem dX11_roughOf_9 : decode cX11_roughOf 9 = .ok (.invokevirtual 68, 3) := by decide +kernel
theorem dX11_roughOf_12 : decode cX11_roughOf 12 = .ok (.if_icmp .lt 14, 3) := by decide +kernel
theorem dX11_roughOf_15 : decode cX11_roughOf 15 = .ok (.new 83, 3) := by decide +kernel
theorem dX11_roughOf_18 : decode cX11_roughOf 18 = .ok (.dup, 1) := by decide +kernel
theorem dX11_roughOf_19 : decode cX11_roughOf 19 = .ok (.ldc_w 302, 3) := by decide +kernel
theorem dX11_roughOf_22 : decode cX11_roughOf 22 = .ok (.invokespecial 87, 3) := by decide +kernel
theorem dX11_roughOf_25 : decode cX11_roughOf 25 = .ok (.athrow, 1) := by decide +kernel
theorem dX11_roughOf_26 : decode cX11_roughOf 26 = .ok (.aload_n 0, 1) := by decide +kernel
theorem dX11_roughOf_27 : decode cX11_roughOf 27 = .ok (.getfield 12, 3) := by decide +kernel
theorem dX11_roughOf_30 : decode cX11_roughOf 30 = .ok (.iload_n 1, 1) := by decide +kernel
theorem dX11_roughOf_31 : decode cX11_roughOf 31 = .ok (.invokevirtual 166, 3) := by decide +kernel
theorem dX11_roughOf_34 : decode cX11_roughOf 34 = .ok (.checkcast 72, 3) := by decide +kernel
theorem dX11_roughOf_37 : decode cX11_roughOf 37 = .ok (.areturn, 1) := by decide +kernel
theorem dX11_scan_0 : decode cX11_scan 0 = .ok (.aload_n 0, 1) := by decide +kernel
theorem dX11_scan_1 : decode cX11_scan 1 = .ok (.iload_n 1, 1) := by decide +kernel
theorem dX11_scan_2 : decode cX11_scan 2 = .ok (.invokevirtual 79, 3) := by decide +kernel
theorem dX11_scan_5 : decode cX11_scan 5 = .ok (.astore 7, 2) := by decide +kernel
theorem dX11_scan_7 : decode cX11_scan 7 = .ok (.iload_n 2, 1) := by decide +kernel
theorem dX11_scan_8 : decode cX11_scan 8 = .ok (.ifCond .lt 9, 3) := by decide +kernel
theorem dX11_scan_11 : decode cX11_scan 11 = .ok (.iload_n 2, 1) := by decide +kernel
theorem dX11_scan_12 : decode cX11_scan 12 = .ok (.bipush 6, 2) := by decide +kernel
theorem dX11_scan_14 : decode cX11_scan 14 = .ok (.if_icmp .lt 13, 3) := by decide +kernel
theorem dX11_scan_17 : decode cX11_scan 17 = .ok (.new 83, 3) := by decide +kernel
theorem dX11_scan_20 : decode cX11_scan 20 = .ok (.dup, 1) := by decide +kernel
theorem dX11_scan_21 : decode cX11_scan 21 = .ok (.ldc 85, 2) := by decide +kernel
theorem dX11_scan_23 : decode cX11_scan 23 = .ok (.invokespecial 87, 3) := by decide +kernel
theorem dX11_scan_26 : decode cX11_scan 26 = .ok (.athrow, 1) := by decide +kernel
theorem dX11_scan_27 : decode cX11_scan 27 = .ok (.lload_n 3, 1) := by decide +kernel
theorem dX11_scan_28 : decode cX11_scan 28 = .ok (.invokestatic 90, 3) := by decide +kernel
theorem dX11_scan_31 : decode cX11_scan 31 = .ok (.ifCond .ne 11, 3) := by decide +kernel
theorem dX11_scan_34 : decode cX11_scan 34 = .ok (.lload 5, 2) := by decide +kernel
theorem dX11_scan_36 : decode cX11_scan 36 = .ok (.invokestatic 90, 3) := by decide +kernel
theorem dX11_scan_39 : decode cX11_scan 39 = .ok (.ifCond .eq 13, 3) := by decide +kernel
theorem dX11_scan_42 : decode cX11_scan 42 = .ok (.new 94, 3) := by decide +kernel
theorem dX11_scan_45 : decode cX11_scan 45 = .ok (.dup, 1) := by decide +kernel
theorem dX11_scan_46 : decode cX11_scan 46 = .ok (.ldc 96, 2) := by decide +kernel
theorem dX11_scan_48 : decode cX11_scan 48 = .ok (.invokespecial 98, 3) := by decide +kernel
theorem dX11_scan_51 : decode cX11_scan 51 = .ok (.athrow, 1) := by decide +kernel
theorem dX11_scan_52 : decode cX11_scan 52 = .ok (.aload 7, 2) := by decide +kernel
theorem dX11_scan_54 : decode cX11_scan 54 = .ok (.getfield 99, 3) := by decide +kernel
theorem dX11_scan_57 : decode cX11_scan 57 = .ok (.iload_n 2, 1) := by decide +kernel
theorem dX11_scan_58 : decode cX11_scan 58 = .ok (.lload_n 3, 1) := by decide +kernel
theorem dX11_scan_59 : decode cX11_scan 59 = .ok (.lload 5, 2) := by decide +kernel
theorem dX11_scan_61 : decode cX11_scan 61 = .ok (.ldc2_w 103, 3) := by decide +kernel
theorem dX11_scan_64 : decode cX11_scan 64 = .ok (.lxor, 1) := by decide +kernel
theorem dX11_scan_65 : decode cX11_scan 65 = .ok (.land, 1) := by decide +kernel
theorem dX11_scan_66 : decode cX11_scan 66 = .ok (.lastore, 1) := by decide +kernel
theorem dX11_scan_67 : decode cX11_scan 67 = .ok (.aload 7, 2) := by decide +kernel
theorem dX11_scan_69 : decode cX11_scan 69 = .ok (.iconst 0, 1) := by decide +kernel
theorem dX11_scan_70 : decode cX11_scan 70 = .ok (.putfield 105, 3) := by decide +kernel
theorem dX11_scan_73 : decode cX11_scan 73 = .ok (.aload 7, 2) := by decide +kernel
theorem dX11_scan_75 : decode cX11_scan 75 = .ok (.getfield 99, 3) := by decide +kernel
theorem dX11_scan_78 : decode cX11_scan 78 = .ok (.iload_n 2, 1) := by decide +kernel
theorem dX11_scan_79 : decode cX11_scan 79 = .ok (.laload, 1) := by decide +kernel
theorem dX11_scan_80 : decode cX11_scan 80 = .ok (.invokestatic 109, 3) := by decide +kernel
theorem dX11_scan_83 : decode cX11_scan 83 = .ok (.ireturn, 1) := by decide +kernel
theorem dX11_stuff_0 : decode cX11_stuff 0 = .ok (.aload_n 0, 1) := by decide +kernel
theorem dX11_stuff_1 : decode cX11_stuff 1 = .ok (.iload_n 1, 1) := by decide +kernel
theorem dX11_stuff_2 : decode cX11_stuff 2 = .ok (.invokevirtual 79, 3) := by decide +kernel
theorem dX11_stuff_5 : decode cX11_stuff 5 = .ok (.astore_n 2, 1) := by decide +kernel
theorem dX11_stuff_6 : decode cX11_stuff 6 = .ok (.iconst 0, 1) := by decide +kernel
theorem dX11_stuff_7 : decode cX11_stuff 7 = .ok (.istore_n 3, 1) := by decide +kernel
theorem dX11_stuff_8 : decode cX11_stuff 8 = .ok (.iconst 0, 1) := by decide +kernel
theorem dX11_stuff_9 : decode cX11_stuff 9 = .ok (.istore 4, 2) := by decide +kernel
theorem dX11_stuff_11 : decode cX11_stuff 11 = .ok (.iload 4, 2) := by decide +kernel
theorem dX11_stuff_13 : decode cX11_stuff 13 = .ok (.bipush 6, 2) := by decide +kernel
theorem dX11_stuff_15 : decode cX11_stuff 15 = .ok (.if_icmp .ge 22, 3) := by decide +kernel
theorem dX11_stuff_18 : decode cX11_stuff 18 = .ok (.iload_n 3, 1) := by decide +kernel
theorem dX11_stuff_19 : decode cX11_stuff 19 = .ok (.aload_n 2, 1) := by decide +kernel
theorem dX11_stuff_20 : decode cX11_stuff 20 = .ok (.getfield 99, 3) := by decide +kernel
theorem dX11_stuff_23 : decode cX11_stuff 23 = .ok (.iload 4, 2) := by decide +kernel
theorem dX11_stuff_25 : decode cX11_stuff 25 = .ok (.laload, 1) := by decide +kernel
theorem dX11_stuff_26 : decode cX11_stuff 26 = .ok (.invokestatic 109, 3) := by decide +kernel
theorem dX11_stuff_29 : decode cX11_stuff 29 = .ok (.iadd, 1) := by decide +kernel
theorem dX11_stuff_30 : decode cX11_stuff 30 = .ok (.istore_n 3, 1) := by decide +kernel
theorem dX11_stuff_31 : decode cX11_stuff 31 = .ok (.iinc 4 1, 3) := by decide +kernel
theorem dX11_stuff_34 : decode cX11_stuff 34 = .ok (.goto (-23), 3) := by decide +kernel
theorem dX11_stuff_37 : decode cX11_stuff 37 = .ok (.iload_n 3, 1) := by decide +kernel
theorem dX11_stuff_38 : decode cX11_stuff 38 = .ok (.ireturn, 1) := by decide +kernel
theorem dX11_feed_0 : decode cX11_feed 0 = .ok (.aload_n 0, 1) := by decide +kernel
theorem dX11_feed_1 : decode cX11_feed 1 = .ok (.getfield 25, 3) := by decide +kernel
theorem dX11_feed_4 : decode cX11_feed 4 = .ok (.getfield 115, 3) := by decide +kernel
theorem dX11_feed_7 : decode cX11_feed 7 = .ok (.bipush 20, 2) := by decide +kernel
theorem dX11_feed_9 : decode cX11_feed 9 = .ok (.iadd, 1) := by decide +kernel
theorem dX11_feed_10 : decode cX11_feed 10 = .ok (.bipush 100, 2) := by decide +kernel
theorem dX11_feed_12 : decode cX11_feed 12 = .ok (.if_icmp .le 5, 3) := by decide +kernel
theorem dX11_feed_15 : decode cX11_feed 15 = .ok (.iconst (-1), 1) := by decide +kernel
theorem dX11_feed_16 : decode cX11_feed 16 = .ok (.ireturn, 1) := by decide +kernel
theorem dX11_feed_17 : decode cX11_feed 17 = .ok (.aload_n 0, 1) := by decide +kernel
theorem dX11_feed_18 : decode cX11_feed 18 = .ok (.getfield 25, 3) := by decide +kernel
theorem dX11_feed_21 : decode cX11_feed 21 = .ok (.iload_n 1, 1) := by decide +kernel
theorem dX11_feed_22 : decode cX11_feed 22 = .ok (.invokevirtual 118, 3) := by decide +kernel
theorem dX11_feed_25 : decode cX11_feed 25 = .ok (.aload_n 0, 1) := by decide +kernel
theorem dX11_feed_26 : decode cX11_feed 26 = .ok (.getfield 25, 3) := by decide +kernel
theorem dX11_feed_29 : decode cX11_feed 29 = .ok (.iload_n 2, 1) := by decide +kernel
theorem dX11_feed_30 : decode cX11_feed 30 = .ok (.invokevirtual 118, 3) := by decide +kernel
theorem dX11_feed_33 : decode cX11_feed 33 = .ok (.aload_n 0, 1) := by decide +kernel
theorem dX11_feed_34 : decode cX11_feed 34 = .ok (.getfield 25, 3) := by decide +kernel
theorem dX11_feed_37 : decode cX11_feed 37 = .ok (.iload_n 3, 1) := by decide +kernel
theorem dX11_feed_38 : decode cX11_feed 38 = .ok (.invokevirtual 118, 3) := by decide +kernel
theorem dX11_feed_41 : decode cX11_feed 41 = .ok (.aload_n 0, 1) := by decide +kernel
theorem dX11_feed_42 : decode cX11_feed 42 = .ok (.getfield 25, 3) := by decide +kernel
theorem dX11_feed_45 : decode cX11_feed 45 = .ok (.iload 4, 2) := by decide +kernel
theorem dX11_feed_47 : decode cX11_feed 47 = .ok (.invokevirtual 118, 3) := by decide +kernel
theorem dX11_feed_50 : decode cX11_feed 50 = .ok (.aload_n 0, 1) := by decide +kernel
theorem dX11_feed_51 : decode cX11_feed 51 = .ok (.getfield 25, 3) := by decide +kernel
theorem dX11_feed_54 : decode cX11_feed 54 = .ok (.iload 5, 2) := by decide +kernel
theorem dX11_feed_56 : decode cX11_feed 56 = .ok (.invokevirtual 118, 3) := by decide +kernel
theorem dX11_feed_59 : decode cX11_feed 59 = .ok (.aload_n 0, 1) := by decide +kernel
theorem dX11_feed_60 : decode cX11_feed 60 = .ok (.getfield 25, 3) := by decide +kernel
theorem dX11_feed_63 : decode cX11_feed 63 = .ok (.getfield 115, 3) := by decide +kernel
theorem dX11_feed_66 : decode cX11_feed 66 = .ok (.ireturn, 1) := by decide +kernel
theorem dX11_forgetCuts_0 : decode cX11_forgetCuts 0 = .ok (.iconst 0, 1) := by decide +kernel
theorem dX11_forgetCuts_1 : decode cX11_forgetCuts 1 = .ok (.istore_n 1, 1) := by decide +kernel
theorem dX11_forgetCuts_2 : decode cX11_forgetCuts 2 = .ok (.iload_n 1, 1) := by decide +kernel
theorem dX11_forgetCuts_3 : decode cX11_forgetCuts 3 = .ok (.aload_n 0, 1) := by decide +kernel
theorem dX11_forgetCuts_4 : decode cX11_forgetCuts 4 = .ok (.getfield 12, 3) := by decide +kernel
theorem dX11_forgetCuts_7 : decode cX11_forgetCuts 7 = .ok (.invokevirtual 68, 3) := by decide +kernel
theorem dX11_forgetCuts_10 : decode cX11_forgetCuts 10 = .ok (.if_icmp .ge 24, 3) := by decide +kernel
theorem dX11_forgetCuts_13 : decode cX11_forgetCuts 13 = .ok (.aload_n 0, 1) := by decide +kernel
theorem dX11_forgetCuts_14 : decode cX11_forgetCuts 14 = .ok (.getfield 12, 3) := by decide +kernel
theorem dX11_forgetCuts_17 : decode cX11_forgetCuts 17 = .ok (.iload_n 1, 1) := by decide +kernel
theorem dX11_forgetCuts_18 : decode cX11_forgetCuts 18 = .ok (.invokevirtual 166, 3) := by decide +kernel
theorem dX11_forgetCuts_21 : decode cX11_forgetCuts 21 = .ok (.checkcast 72, 3) := by decide +kernel
theorem dX11_forgetCuts_24 : decode cX11_forgetCuts 24 = .ok (.iconst 0, 1) := by decide +kernel
theorem dX11_forgetCuts_25 : decode cX11_forgetCuts 25 = .ok (.putfield 105, 3) := by decide +kernel
theorem dX11_forgetCuts_28 : decode cX11_forgetCuts 28 = .ok (.iinc 1 1, 3) := by decide +kernel
theorem dX11_forgetCuts_31 : decode cX11_forgetCuts 31 = .ok (.goto (-29), 3) := by decide +kernel
theorem dX11_forgetCuts_34 : decode cX11_forgetCuts 34 = .ok (.return_, 1) := by decide +kernel
theorem dX11_model_0 : decode cX11_model 0 = .ok (.iload_n 1, 1) := by decide +kernel
theorem dX11_model_1 : decode cX11_model 1 = .ok (.ifCond .lt 14, 3) := by decide +kernel
theorem dX11_model_4 : decode cX11_model 4 = .ok (.iload_n 1, 1) := by decide +kernel
theorem dX11_model_5 : decode cX11_model 5 = .ok (.aload_n 0, 1) := by decide +kernel
theorem dX11_model_6 : decode cX11_model 6 = .ok (.getfield 25, 3) := by decide +kernel
theorem dX11_model_9 : decode cX11_model 9 = .ok (.getfield 115, 3) := by decide +kernel
theorem dX11_model_12 : decode cX11_model 12 = .ok (.if_icmp .le 13, 3) := by decide +kernel
theorem dX11_model_15 : decode cX11_model 15 = .ok (.new 94, 3) := by decide +kernel
theorem dX11_model_18 : decode cX11_model 18 = .ok (.dup, 1) := by decide +kernel
theorem dX11_model_19 : decode cX11_model 19 = .ok (.ldc 122, 2) := by decide +kernel
theorem dX11_model_21 : decode cX11_model 21 = .ok (.invokespecial 98, 3) := by decide +kernel
theorem dX11_model_24 : decode cX11_model 24 = .ok (.athrow, 1) := by decide +kernel
theorem dX11_model_25 : decode cX11_model 25 = .ok (.aload_n 0, 1) := by decide +kernel
theorem dX11_model_26 : decode cX11_model 26 = .ok (.getfield 16, 3) := by decide +kernel
theorem dX11_model_29 : decode cX11_model 29 = .ok (.invokevirtual 68, 3) := by decide +kernel
theorem dX11_model_32 : decode cX11_model 32 = .ok (.istore_n 2, 1) := by decide +kernel
theorem dX11_model_33 : decode cX11_model 33 = .ok (.iload_n 2, 1) := by decide +kernel
theorem dX11_model_34 : decode cX11_model 34 = .ok (.bipush 6, 2) := by decide +kernel
theorem dX11_model_36 : decode cX11_model 36 = .ok (.if_icmp .lt 13, 3) := by decide +kernel
theorem dX11_model_39 : decode cX11_model 39 = .ok (.new 124, 3) := by decide +kernel
theorem dX11_model_42 : decode cX11_model 42 = .ok (.dup, 1) := by decide +kernel
theorem dX11_model_43 : decode cX11_model 43 = .ok (.ldc 126, 2) := by decide +kernel
theorem dX11_model_45 : decode cX11_model 45 = .ok (.invokespecial 128, 3) := by decide +kernel
theorem dX11_model_48 : decode cX11_model 48 = .ok (.athrow, 1) := by decide +kernel
theorem dX11_model_49 : decode cX11_model 49 = .ok (.aload_n 0, 1) := by decide +kernel
theorem dX11_model_50 : decode cX11_model 50 = .ok (.getfield 25, 3) := by decide +kernel
theorem dX11_model_53 : decode cX11_model 53 = .ok (.iload_n 1, 1) := by decide +kernel
theorem dX11_model_54 : decode cX11_model 54 = .ok (.invokevirtual 129, 3) := by decide +kernel
theorem dX11_model_57 : decode cX11_model 57 = .ok (.istore_n 3, 1) := by decide +kernel
theorem dX11_model_58 : decode cX11_model 58 = .ok (.aload_n 0, 1) := by decide +kernel
theorem dX11_model_59 : decode cX11_model 59 = .ok (.getfield 25, 3) := by decide +kernel
theorem dX11_model_62 : decode cX11_model 62 = .ok (.iconst 0, 1) := by decide +kernel
theorem dX11_model_63 : decode cX11_model 63 = .ok (.putfield 115, 3) := by decide +kernel
theorem dX11_model_66 : decode cX11_model 66 = .ok (.iload_n 3, 1) := by decide +kernel
theorem dX11_model_67 : decode cX11_model 67 = .ok (.ifCond .ne 14, 3) := by decide +kernel
theorem dX11_model_70 : decode cX11_model 70 = .ok (.bipush (-2), 2) := by decide +kernel
theorem dX11_model_72 : decode cX11_model 72 = .ok (.aload_n 0, 1) := by decide +kernel
theorem dX11_model_73 : decode cX11_model 73 = .ok (.getfield 25, 3) := by decide +kernel
theorem dX11_model_76 : decode cX11_model 76 = .ok (.getfield 133, 3) := by decide +kernel
theorem dX11_model_79 : decode cX11_model 79 = .ok (.isub, 1) := by decide +kernel
theorem dX11_model_80 : decode cX11_model 80 = .ok (.ireturn, 1) := by decide +kernel
theorem dX11_model_81 : decode cX11_model 81 = .ok (.aload_n 0, 1) := by decide +kernel
theorem dX11_model_82 : decode cX11_model 82 = .ok (.getfield 16, 3) := by decide +kernel
theorem dX11_model_85 : decode cX11_model 85 = .ok (.new 136, 3) := by decide +kernel
theorem dX11_model_88 : decode cX11_model 88 = .ok (.dup, 1) := by decide +kernel
theorem dX11_model_89 : decode cX11_model 89 = .ok (.aload_n 0, 1) := by decide +kernel
theorem dX11_model_90 : decode cX11_model 90 = .ok (.getfield 25, 3) := by decide +kernel
theorem dX11_model_93 : decode cX11_model 93 = .ok (.invokespecial 138, 3) := by decide +kernel
theorem dX11_model_96 : decode cX11_model 96 = .ok (.invokevirtual 75, 3) := by decide +kernel
theorem dX11_model_99 : decode cX11_model 99 = .ok (.pop, 1) := by decide +kernel
theorem dX11_model_100 : decode cX11_model 100 = .ok (.aload_n 0, 1) := by decide +kernel
theorem dX11_model_101 : decode cX11_model 101 = .ok (.invokevirtual 141, 3) := by decide +kernel
theorem dX11_model_104 : decode cX11_model 104 = .ok (.iload_n 2, 1) := by decide +kernel
theorem dX11_model_105 : decode cX11_model 105 = .ok (.ireturn, 1) := by decide +kernel
theorem dX11_price_0 : decode cX11_price 0 = .ok (.iload_n 1, 1) := by decide +kernel
theorem dX11_price_1 : decode cX11_price 1 = .ok (.iconst 1, 1) := by decide +kernel
theorem dX11_price_2 : decode cX11_price 2 = .ok (.if_icmp .lt 21, 3) := by decide +kernel
theorem dX11_price_5 : decode cX11_price 5 = .ok (.iload_n 1, 1) := by decide +kernel
theorem dX11_price_6 : decode cX11_price 6 = .ok (.sipush 216, 3) := by decide +kernel
theorem dX11_price_9 : decode cX11_price 9 = .ok (.if_icmp .gt 14, 3) := by decide +kernel
theorem dX11_price_12 : decode cX11_price 12 = .ok (.iload_n 2, 1) := by decide +kernel
theorem dX11_price_13 : decode cX11_price 13 = .ok (.ifCond .lt 10, 3) := by decide +kernel
theorem dX11_price_16 : decode cX11_price 16 = .ok (.iload_n 2, 1) := by decide +kernel
theorem dX11_price_17 : decode cX11_price 17 = .ok (.sipush 10000, 3) := by decide +kernel
theorem dX11_price_20 : decode cX11_price 20 = .ok (.if_icmp .le 13, 3) := by decide +kernel
theorem dX11_price_23 : decode cX11_price 23 = .ok (.new 94, 3) := by decide +kernel
theorem dX11_price_26 : decode cX11_price 26 = .ok (.dup, 1) := by decide +kernel
theorem dX11_price_27 : decode cX11_price 27 = .ok (.ldc 144, 2) := by decide +kernel
theorem dX11_price_29 : decode cX11_price 29 = .ok (.invokespecial 98, 3) := by decide +kernel
theorem dX11_price_32 : decode cX11_price 32 = .ok (.athrow, 1) := by decide +kernel
theorem dX11_price_33 : decode cX11_price 33 = .ok (.aload_n 0, 1) := by decide +kernel
theorem dX11_price_34 : decode cX11_price 34 = .ok (.getfield 32, 3) := by decide +kernel
theorem dX11_price_37 : decode cX11_price 37 = .ok (.iload_n 1, 1) := by decide +kernel
theorem dX11_price_38 : decode cX11_price 38 = .ok (.iload_n 2, 1) := by decide +kernel
theorem dX11_price_39 : decode cX11_price 39 = .ok (.invokevirtual 146, 3) := by decide +kernel
theorem dX11_price_42 : decode cX11_price 42 = .ok (.ifCond .ne 5, 3) := by decide +kernel
theorem dX11_price_45 : decode cX11_price 45 = .ok (.iconst (-1), 1) := by decide +kernel
theorem dX11_price_46 : decode cX11_price 46 = .ok (.ireturn, 1) := by decide +kernel
theorem dX11_price_47 : decode cX11_price 47 = .ok (.aload_n 0, 1) := by decide +kernel
theorem dX11_price_48 : decode cX11_price 48 = .ok (.invokevirtual 141, 3) := by decide +kernel
theorem dX11_price_51 : decode cX11_price 51 = .ok (.aload_n 0, 1) := by decide +kernel
theorem dX11_price_52 : decode cX11_price 52 = .ok (.getfield 32, 3) := by decide +kernel
theorem dX11_price_55 : decode cX11_price 55 = .ok (.getfield 150, 3) := by decide +kernel
theorem dX11_price_58 : decode cX11_price 58 = .ok (.ireturn, 1) := by decide +kernel
theorem dX11_worth_0 : decode cX11_worth 0 = .ok (.iload_n 1, 1) := by decide +kernel
theorem dX11_worth_1 : decode cX11_worth 1 = .ok (.ifCond .lt 10, 3) := by decide +kernel
theorem dX11_worth_4 : decode cX11_worth 4 = .ok (.iload_n 1, 1) := by decide +kernel
theorem dX11_worth_5 : decode cX11_worth 5 = .ok (.sipush 216, 3) := by decide +kernel
theorem dX11_worth_8 : decode cX11_worth 8 = .ok (.if_icmp .le 13, 3) := by decide +kernel
theorem dX11_worth_11 : decode cX11_worth 11 = .ok (.new 94, 3) := by decide +kernel
theorem dX11_worth_14 : decode cX11_worth 14 = .ok (.dup, 1) := by decide +kernel
theorem dX11_worth_15 : decode cX11_worth 15 = .ok (.ldc 153, 2) := by decide +kernel
theorem dX11_worth_17 : decode cX11_worth 17 = .ok (.invokespecial 98, 3) := by decide +kernel
theorem dX11_worth_20 : decode cX11_worth 20 = .ok (.athrow, 1) := by decide +kernel
theorem dX11_worth_21 : decode cX11_worth 21 = .ok (.aload_n 0, 1) := by decide +kernel
theorem dX11_worth_22 : decode cX11_worth 22 = .ok (.getfield 32, 3) := by decide +kernel
theorem dX11_worth_25 : decode cX11_worth 25 = .ok (.iload_n 1, 1) := by decide +kernel
theorem dX11_worth_26 : decode cX11_worth 26 = .ok (.invokevirtual 155, 3) := by decide +kernel
theorem dX11_worth_29 : decode cX11_worth 29 = .ok (.ireturn, 1) := by decide +kernel
theorem dX11_fit_0 : decode cX11_fit 0 = .ok (.aload_n 0, 1) := by decide +kernel
theorem dX11_fit_1 : decode cX11_fit 1 = .ok (.iload_n 1, 1) := by decide +kernel
theorem dX11_fit_2 : decode cX11_fit 2 = .ok (.invokevirtual 79, 3) := by decide +kernel
theorem dX11_fit_5 : decode cX11_fit 5 = .ok (.astore 4, 2) := by decide +kernel
theorem dX11_fit_7 : decode cX11_fit 7 = .ok (.iload_n 2, 1) := by decide +kernel
theorem dX11_fit_8 : decode cX11_fit 8 = .ok (.ifCond .lt 14, 3) := by decide +kernel
theorem dX11_fit_11 : decode cX11_fit 11 = .ok (.iload_n 2, 1) := by decide +kernel
theorem dX11_fit_12 : decode cX11_fit 12 = .ok (.aload_n 0, 1) := by decide +kernel
theorem dX11_fit_13 : decode cX11_fit 13 = .ok (.getfield 16, 3) := by decide +kernel
theorem dX11_fit_16 : decode cX11_fit 16 = .ok (.invokevirtual 68, 3) := by decide +kernel
theorem dX11_fit_19 : decode cX11_fit 19 = .ok (.if_icmp .lt 13, 3) := by decide +kernel
theorem dX11_fit_22 : decode cX11_fit 22 = .ok (.new 159, 3) := by decide +kernel
theorem dX11_fit_25 : decode cX11_fit 25 = .ok (.dup, 1) := by decide +kernel
theorem dX11_fit_26 : decode cX11_fit 26 = .ok (.ldc 161, 2) := by decide +kernel
theorem dX11_fit_28 : decode cX11_fit 28 = .ok (.invokespecial 163, 3) := by decide +kernel
theorem dX11_fit_31 : decode cX11_fit 31 = .ok (.athrow, 1) := by decide +kernel
theorem dX11_fit_32 : decode cX11_fit 32 = .ok (.iload_n 3, 1) := by decide +kernel
theorem dX11_fit_33 : decode cX11_fit 33 = .ok (.ifCond .lt 9, 3) := by decide +kernel
theorem dX11_fit_36 : decode cX11_fit 36 = .ok (.iload_n 3, 1) := by decide +kernel
theorem dX11_fit_37 : decode cX11_fit 37 = .ok (.bipush 6, 2) := by decide +kernel
theorem dX11_fit_39 : decode cX11_fit 39 = .ok (.if_icmp .lt 13, 3) := by decide +kernel
theorem dX11_fit_42 : decode cX11_fit 42 = .ok (.new 94, 3) := by decide +kernel
theorem dX11_fit_45 : decode cX11_fit 45 = .ok (.dup, 1) := by decide +kernel
theorem dX11_fit_46 : decode cX11_fit 46 = .ok (.ldc 164, 2) := by decide +kernel
theorem dX11_fit_48 : decode cX11_fit 48 = .ok (.invokespecial 98, 3) := by decide +kernel
theorem dX11_fit_51 : decode cX11_fit 51 = .ok (.athrow, 1) := by decide +kernel
theorem dX11_fit_52 : decode cX11_fit 52 = .ok (.aload_n 0, 1) := by decide +kernel
theorem dX11_fit_53 : decode cX11_fit 53 = .ok (.getfield 16, 3) := by decide +kernel
theorem dX11_fit_56 : decode cX11_fit 56 = .ok (.iload_n 2, 1) := by decide +kernel
theorem dX11_fit_57 : decode cX11_fit 57 = .ok (.invokevirtual 166, 3) := by decide +kernel
theorem dX11_fit_60 : decode cX11_fit 60 = .ok (.checkcast 136, 3) := by decide +kernel
theorem dX11_fit_63 : decode cX11_fit 63 = .ok (.astore 5, 2) := by decide +kernel
theorem dX11_fit_65 : decode cX11_fit 65 = .ok (.aload 5, 2) := by decide +kernel
theorem dX11_fit_67 : decode cX11_fit 67 = .ok (.getfield 170, 3) := by decide +kernel
theorem dX11_fit_70 : decode cX11_fit 70 = .ok (.istore 6, 2) := by decide +kernel
theorem dX11_fit_72 : decode cX11_fit 72 = .ok (.iload 6, 2) := by decide +kernel
theorem dX11_fit_74 : decode cX11_fit 74 = .ok (.ifCond .le 32, 3) := by decide +kernel
theorem dX11_fit_77 : decode cX11_fit 77 = .ok (.aload_n 0, 1) := by decide +kernel
theorem dX11_fit_78 : decode cX11_fit 78 = .ok (.getfield 39, 3) := by decide +kernel
theorem dX11_fit_81 : decode cX11_fit 81 = .ok (.aload 4, 2) := by decide +kernel
theorem dX11_fit_83 : decode cX11_fit 83 = .ok (.getfield 99, 3) := by decide +kernel
theorem dX11_fit_86 : decode cX11_fit 86 = .ok (.aload 5, 2) := by decide +kernel
theorem dX11_fit_88 : decode cX11_fit 88 = .ok (.iload 6, 2) := by decide +kernel
theorem dX11_fit_90 : decode cX11_fit 90 = .ok (.iload_n 3, 1) := by decide +kernel
theorem dX11_fit_91 : decode cX11_fit 91 = .ok (.invokevirtual 173, 3) := by decide +kernel
theorem dX11_fit_94 : decode cX11_fit 94 = .ok (.ifCond .eq 6, 3) := by decide +kernel
theorem dX11_fit_97 : decode cX11_fit 97 = .ok (.iload 6, 2) := by decide +kernel
theorem dX11_fit_99 : decode cX11_fit 99 = .ok (.ireturn, 1) := by decide +kernel
theorem dX11_fit_100 : decode cX11_fit 100 = .ok (.iinc 6 (-1), 3) := by decide +kernel
theorem dX11_fit_103 : decode cX11_fit 103 = .ok (.goto (-31), 3) := by decide +kernel
theorem dX11_fit_106 : decode cX11_fit 106 = .ok (.iconst 0, 1) := by decide +kernel
theorem dX11_fit_107 : decode cX11_fit 107 = .ok (.ireturn, 1) := by decide +kernel
theorem dX11_sawnRough_0 : decode cX11_sawnRough 0 = .ok (.aload_n 0, 1) := by decide +kernel
theorem dX11_sawnRough_1 : decode cX11_sawnRough 1 = .ok (.iload_n 1, 1) := by decide +kernel
theorem dX11_sawnRough_2 : decode cX11_sawnRough 2 = .ok (.invokevirtual 79, 3) := by decide +kernel
theorem dX11_sawnRough_5 : decode cX11_sawnRough 5 = .ok (.astore_n 2, 1) := by decide +kernel
theorem dX11_sawnRough_6 : decode cX11_sawnRough 6 = .ok (.aload_n 2, 1) := by decide +kernel
theorem dX11_sawnRough_7 : decode cX11_sawnRough 7 = .ok (.getfield 105, 3) := by decide +kernel
theorem dX11_sawnRough_10 : decode cX11_sawnRough 10 = .ok (.ifCond .ne 24, 3) := by decide +kernel
theorem dX11_sawnRough_13 : decode cX11_sawnRough 13 = .ok (.aload_n 0, 1) := by decide +kernel
theorem dX11_sawnRough_14 : decode cX11_sawnRough 14 = .ok (.getfield 39, 3) := by decide +kernel
theorem dX11_sawnRough_17 : decode cX11_sawnRough 17 = .ok (.aload_n 2, 1) := by decide +kernel
theorem dX11_sawnRough_18 : decode cX11_sawnRough 18 = .ok (.aload_n 0, 1) := by decide +kernel
theorem dX11_sawnRough_19 : decode cX11_sawnRough 19 = .ok (.getfield 16, 3) := by decide +kernel
theorem dX11_sawnRough_22 : decode cX11_sawnRough 22 = .ok (.aload_n 0, 1) := by decide +kernel
theorem dX11_sawnRough_23 : decode cX11_sawnRough 23 = .ok (.getfield 32, 3) := by decide +kernel
theorem dX11_sawnRough_26 : decode cX11_sawnRough 26 = .ok (.invokevirtual 304, 3) := by decide +kernel
theorem dX11_sawnRough_29 : decode cX11_sawnRough 29 = .ok (.aload_n 2, 1) := by decide +kernel
theorem dX11_sawnRough_30 : decode cX11_sawnRough 30 = .ok (.iconst 1, 1) := by decide +kernel
theorem dX11_sawnRough_31 : decode cX11_sawnRough 31 = .ok (.putfield 105, 3) := by decide +kernel
theorem dX11_sawnRough_34 : decode cX11_sawnRough 34 = .ok (.aload_n 2, 1) := by decide +kernel
theorem dX11_sawnRough_35 : decode cX11_sawnRough 35 = .ok (.areturn, 1) := by decide +kernel
theorem dX11_best_0 : decode cX11_best 0 = .ok (.aload_n 0, 1) := by decide +kernel
theorem dX11_best_1 : decode cX11_best 1 = .ok (.iload_n 1, 1) := by decide +kernel
theorem dX11_best_2 : decode cX11_best 2 = .ok (.invokevirtual 177, 3) := by decide +kernel
theorem dX11_best_5 : decode cX11_best 5 = .ok (.getfield 180, 3) := by decide +kernel
theorem dX11_best_8 : decode cX11_best 8 = .ok (.ireturn, 1) := by decide +kernel
theorem dX11_sawn_0 : decode cX11_sawn 0 = .ok (.aload_n 0, 1) := by decide +kernel
theorem dX11_sawn_1 : decode cX11_sawn 1 = .ok (.iload_n 1, 1) := by decide +kernel
theorem dX11_sawn_2 : decode cX11_sawn 2 = .ok (.invokevirtual 177, 3) := by decide +kernel
theorem dX11_sawn_5 : decode cX11_sawn 5 = .ok (.astore_n 3, 1) := by decide +kernel
theorem dX11_sawn_6 : decode cX11_sawn 6 = .ok (.iload_n 2, 1) := by decide +kernel
theorem dX11_sawn_7 : decode cX11_sawn 7 = .ok (.ifCond .lt 8, 3) := by decide +kernel
theorem dX11_sawn_10 : decode cX11_sawn 10 = .ok (.iload_n 2, 1) := by decide +kernel
theorem dX11_sawn_11 : decode cX11_sawn 11 = .ok (.iconst 2, 1) := by decide +kernel
theorem dX11_sawn_12 : decode cX11_sawn 12 = .ok (.if_icmp .le 13, 3) := by decide +kernel
theorem dX11_sawn_15 : decode cX11_sawn 15 = .ok (.new 94, 3) := by decide +kernel
theorem dX11_sawn_18 : decode cX11_sawn 18 = .ok (.dup, 1) := by decide +kernel
theorem dX11_sawn_19 : decode cX11_sawn 19 = .ok (.ldc 183, 2) := by decide +kernel
theorem dX11_sawn_21 : decode cX11_sawn 21 = .ok (.invokespecial 98, 3) := by decide +kernel
theorem dX11_sawn_24 : decode cX11_sawn 24 = .ok (.athrow, 1) := by decide +kernel
theorem dX11_sawn_25 : decode cX11_sawn 25 = .ok (.iload_n 2, 1) := by decide +kernel
theorem dX11_sawn_26 : decode cX11_sawn 26 = .ok (.lookupswitch 36 #[(0, 26), (1, 31)], 26) := by decide +kernel
theorem dX11_sawn_52 : decode cX11_sawn 52 = .ok (.aload_n 3, 1) := by decide +kernel
theorem dX11_sawn_53 : decode cX11_sawn 53 = .ok (.getfield 185, 3) := by decide +kernel
theorem dX11_sawn_56 : decode cX11_sawn 56 = .ok (.ireturn, 1) := by decide +kernel
theorem dX11_sawn_57 : decode cX11_sawn 57 = .ok (.aload_n 3, 1) := by decide +kernel
theorem dX11_sawn_58 : decode cX11_sawn 58 = .ok (.getfield 188, 3) := by decide +kernel
theorem dX11_sawn_61 : decode cX11_sawn 61 = .ok (.ireturn, 1) := by decide +kernel
theorem dX11_sawn_62 : decode cX11_sawn 62 = .ok (.aload_n 3, 1) := by decide +kernel
theorem dX11_sawn_63 : decode cX11_sawn 63 = .ok (.getfield 189, 3) := by decide +kernel
theorem dX11_sawn_66 : decode cX11_sawn 66 = .ok (.ireturn, 1) := by decide +kernel
theorem dX11_cut_0 : decode cX11_cut 0 = .ok (.aload_n 0, 1) := by decide +kernel
theorem dX11_cut_1 : decode cX11_cut 1 = .ok (.iload_n 1, 1) := by decide +kernel
theorem dX11_cut_2 : decode cX11_cut 2 = .ok (.invokevirtual 177, 3) := by decide +kernel
theorem dX11_cut_5 : decode cX11_cut 5 = .ok (.astore 4, 2) := by decide +kernel
theorem dX11_cut_7 : decode cX11_cut 7 = .ok (.iload_n 3, 1) := by decide +kernel
theorem dX11_cut_8 : decode cX11_cut 8 = .ok (.ifCond .lt 9, 3) := by decide +kernel
theorem dX11_cut_11 : decode cX11_cut 11 = .ok (.iload_n 3, 1) := by decide +kernel
theorem dX11_cut_12 : decode cX11_cut 12 = .ok (.bipush 6, 2) := by decide +kernel
theorem dX11_cut_14 : decode cX11_cut 14 = .ok (.if_icmp .le 13, 3) := by decide +kernel
theorem dX11_cut_17 : decode cX11_cut 17 = .ok (.new 94, 3) := by decide +kernel
theorem dX11_cut_20 : decode cX11_cut 20 = .ok (.dup, 1) := by decide +kernel
theorem dX11_cut_21 : decode cX11_cut 21 = .ok (.ldc 192, 2) := by decide +kernel
theorem dX11_cut_23 : decode cX11_cut 23 = .ok (.invokespecial 98, 3) := by decide +kernel
theorem dX11_cut_26 : decode cX11_cut 26 = .ok (.athrow, 1) := by decide +kernel
theorem dX11_cut_27 : decode cX11_cut 27 = .ok (.iload_n 2, 1) := by decide +kernel
theorem dX11_cut_28 : decode cX11_cut 28 = .ok (.ifCond .lt 12, 3) := by decide +kernel
theorem dX11_cut_31 : decode cX11_cut 31 = .ok (.iload_n 2, 1) := by decide +kernel
theorem dX11_cut_32 : decode cX11_cut 32 = .ok (.aload 4, 2) := by decide +kernel
theorem dX11_cut_34 : decode cX11_cut 34 = .ok (.getfield 189, 3) := by decide +kernel
theorem dX11_cut_37 : decode cX11_cut 37 = .ok (.if_icmp .lt 21, 3) := by decide +kernel
theorem dX11_cut_40 : decode cX11_cut 40 = .ok (.iload_n 3, 1) := by decide +kernel
theorem dX11_cut_41 : decode cX11_cut 41 = .ok (.iconst 3, 1) := by decide +kernel
theorem dX11_cut_42 : decode cX11_cut 42 = .ok (.if_icmp .lt 14, 3) := by decide +kernel
theorem dX11_cut_45 : decode cX11_cut 45 = .ok (.iload_n 3, 1) := by decide +kernel
theorem dX11_cut_46 : decode cX11_cut 46 = .ok (.iconst 5, 1) := by decide +kernel
theorem dX11_cut_47 : decode cX11_cut 47 = .ok (.if_icmp .gt 9, 3) := by decide +kernel
theorem dX11_cut_50 : decode cX11_cut 50 = .ok (.sipush (-1000), 3) := by decide +kernel
theorem dX11_cut_53 : decode cX11_cut 53 = .ok (.goto 4, 3) := by decide +kernel
theorem dX11_cut_56 : decode cX11_cut 56 = .ok (.iconst (-1), 1) := by decide +kernel
theorem dX11_cut_57 : decode cX11_cut 57 = .ok (.ireturn, 1) := by decide +kernel
theorem dX11_cut_58 : decode cX11_cut 58 = .ok (.iload_n 2, 1) := by decide +kernel
theorem dX11_cut_59 : decode cX11_cut 59 = .ok (.ifCond .ne 15, 3) := by decide +kernel
theorem dX11_cut_62 : decode cX11_cut 62 = .ok (.aload 4, 2) := by decide +kernel
theorem dX11_cut_64 : decode cX11_cut 64 = .ok (.getfield 194, 3) := by decide +kernel
theorem dX11_cut_67 : decode cX11_cut 67 = .ok (.iload_n 3, 1) := by decide +kernel
theorem dX11_cut_68 : decode cX11_cut 68 = .ok (.invokevirtual 198, 3) := by decide +kernel
theorem dX11_cut_71 : decode cX11_cut 71 = .ok (.goto 12, 3) := by decide +kernel
theorem dX11_cut_74 : decode cX11_cut 74 = .ok (.aload 4, 2) := by decide +kernel
theorem dX11_cut_76 : decode cX11_cut 76 = .ok (.getfield 203, 3) := by decide +kernel
theorem dX11_cut_79 : decode cX11_cut 79 = .ok (.iload_n 3, 1) := by decide +kernel
theorem dX11_cut_80 : decode cX11_cut 80 = .ok (.invokevirtual 198, 3) := by decide +kernel
theorem dX11_cut_83 : decode cX11_cut 83 = .ok (.ireturn, 1) := by decide +kernel
theorem dX11_done_0 : decode cX11_done 0 = .ok (.aload_n 0, 1) := by decide +kernel
theorem dX11_done_1 : decode cX11_done 1 = .ok (.iload_n 1, 1) := by decide +kernel
theorem dX11_done_2 : decode cX11_done 2 = .ok (.invokevirtual 177, 3) := by decide +kernel
theorem dX11_done_5 : decode cX11_done 5 = .ok (.astore_n 2, 1) := by decide +kernel
theorem dX11_done_6 : decode cX11_done 6 = .ok (.aload_n 2, 1) := by decide +kernel
theorem dX11_done_7 : decode cX11_done 7 = .ok (.getfield 189, 3) := by decide +kernel
theorem dX11_done_10 : decode cX11_done 10 = .ok (.istore_n 3, 1) := by decide +kernel
theorem dX11_done_11 : decode cX11_done 11 = .ok (.aload_n 0, 1) := by decide +kernel
theorem dX11_done_12 : decode cX11_done 12 = .ok (.getfield 19, 3) := by decide +kernel
theorem dX11_done_15 : decode cX11_done 15 = .ok (.invokevirtual 68, 3) := by decide +kernel
theorem dX11_done_18 : decode cX11_done 18 = .ok (.iload_n 3, 1) := by decide +kernel
theorem dX11_done_19 : decode cX11_done 19 = .ok (.iadd, 1) := by decide +kernel
theorem dX11_done_20 : decode cX11_done 20 = .ok (.bipush 40, 2) := by decide +kernel
theorem dX11_done_22 : decode cX11_done 22 = .ok (.if_icmp .le 5, 3) := by decide +kernel
theorem dX11_done_25 : decode cX11_done 25 = .ok (.iconst (-1), 1) := by decide +kernel
theorem dX11_done_26 : decode cX11_done 26 = .ok (.ireturn, 1) := by decide +kernel
theorem dX11_done_27 : decode cX11_done 27 = .ok (.iload_n 3, 1) := by decide +kernel
theorem dX11_done_28 : decode cX11_done 28 = .ok (.ifCond .le 23, 3) := by decide +kernel
theorem dX11_done_31 : decode cX11_done 31 = .ok (.aload_n 0, 1) := by decide +kernel
theorem dX11_done_32 : decode cX11_done 32 = .ok (.getfield 19, 3) := by decide +kernel
theorem dX11_done_35 : decode cX11_done 35 = .ok (.new 206, 3) := by decide +kernel
theorem dX11_done_38 : decode cX11_done 38 = .ok (.dup, 1) := by decide +kernel
theorem dX11_done_39 : decode cX11_done 39 = .ok (.iload_n 1, 1) := by decide +kernel
theorem dX11_done_40 : decode cX11_done 40 = .ok (.aload_n 2, 1) := by decide +kernel
theorem dX11_done_41 : decode cX11_done 41 = .ok (.getfield 194, 3) := by decide +kernel
theorem dX11_done_44 : decode cX11_done 44 = .ok (.invokespecial 208, 3) := by decide +kernel
theorem dX11_done_47 : decode cX11_done 47 = .ok (.invokevirtual 75, 3) := by decide +kernel
theorem dX11_done_50 : decode cX11_done 50 = .ok (.pop, 1) := by decide +kernel
theorem dX11_done_51 : decode cX11_done 51 = .ok (.iload_n 3, 1) := by decide +kernel
theorem dX11_done_52 : decode cX11_done 52 = .ok (.iconst 1, 1) := by decide +kernel
theorem dX11_done_53 : decode cX11_done 53 = .ok (.if_icmp .le 23, 3) := by decide +kernel
theorem dX11_done_56 : decode cX11_done 56 = .ok (.aload_n 0, 1) := by decide +kernel
theorem dX11_done_57 : decode cX11_done 57 = .ok (.getfield 19, 3) := by decide +kernel
theorem dX11_done_60 : decode cX11_done 60 = .ok (.new 206, 3) := by decide +kernel
theorem dX11_done_63 : decode cX11_done 63 = .ok (.dup, 1) := by decide +kernel
theorem dX11_done_64 : decode cX11_done 64 = .ok (.iload_n 1, 1) := by decide +kernel
theorem dX11_done_65 : decode cX11_done 65 = .ok (.aload_n 2, 1) := by decide +kernel
theorem dX11_done_66 : decode cX11_done 66 = .ok (.getfield 203, 3) := by decide +kernel
theorem dX11_done_69 : decode cX11_done 69 = .ok (.invokespecial 208, 3) := by decide +kernel
theorem dX11_done_72 : decode cX11_done 72 = .ok (.invokevirtual 75, 3) := by decide +kernel
theorem dX11_done_75 : decode cX11_done 75 = .ok (.pop, 1) := by decide +kernel
theorem dX11_done_76 : decode cX11_done 76 = .ok (.iconst 0, 1) := by decide +kernel
theorem dX11_done_77 : decode cX11_done 77 = .ok (.istore 4, 2) := by decide +kernel
theorem dX11_done_79 : decode cX11_done 79 = .ok (.iload 4, 2) := by decide +kernel
theorem dX11_done_81 : decode cX11_done 81 = .ok (.bipush 6, 2) := by decide +kernel
theorem dX11_done_83 : decode cX11_done 83 = .ok (.if_icmp .ge 17, 3) := by decide +kernel
theorem dX11_done_86 : decode cX11_done 86 = .ok (.aload_n 2, 1) := by decide +kernel
theorem dX11_done_87 : decode cX11_done 87 = .ok (.getfield 99, 3) := by decide +kernel
theorem dX11_done_90 : decode cX11_done 90 = .ok (.iload 4, 2) := by decide +kernel
theorem dX11_done_92 : decode cX11_done 92 = .ok (.lconst 0, 1) := by decide +kernel
theorem dX11_done_93 : decode cX11_done 93 = .ok (.lastore, 1) := by decide +kernel
theorem dX11_done_94 : decode cX11_done 94 = .ok (.iinc 4 1, 3) := by decide +kernel
theorem dX11_done_97 : decode cX11_done 97 = .ok (.goto (-18), 3) := by decide +kernel
theorem dX11_done_100 : decode cX11_done 100 = .ok (.aload_n 2, 1) := by decide +kernel
theorem dX11_done_101 : decode cX11_done 101 = .ok (.iconst 0, 1) := by decide +kernel
theorem dX11_done_102 : decode cX11_done 102 = .ok (.putfield 105, 3) := by decide +kernel
theorem dX11_done_105 : decode cX11_done 105 = .ok (.iload_n 3, 1) := by decide +kernel
theorem dX11_done_106 : decode cX11_done 106 = .ok (.ireturn, 1) := by decide +kernel
theorem dX11_stoneOf_0 : decode cX11_stoneOf 0 = .ok (.iload_n 1, 1) := by decide +kernel
theorem dX11_stoneOf_1 : decode cX11_stoneOf 1 = .ok (.ifCond .lt 14, 3) := by decide +kernel
theorem dX11_stoneOf_4 : decode cX11_stoneOf 4 = .ok (.iload_n 1, 1) := by decide +kernel
theorem dX11_stoneOf_5 : decode cX11_stoneOf 5 = .ok (.aload_n 0, 1) := by decide +kernel
theorem dX11_stoneOf_6 : decode cX11_stoneOf 6 = .ok (.getfield 19, 3) := by decide +kernel
theorem dX11_stoneOf_9 : decode cX11_stoneOf 9 = .ok (.invokevirtual 68, 3) := by decide +kernel
theorem dX11_stoneOf_12 : decode cX11_stoneOf 12 = .ok (.if_icmp .lt 14, 3) := by decide +kernel
theorem dX11_stoneOf_15 : decode cX11_stoneOf 15 = .ok (.new 159, 3) := by decide +kernel
theorem dX11_stoneOf_18 : decode cX11_stoneOf 18 = .ok (.dup, 1) := by decide +kernel
theorem dX11_stoneOf_19 : decode cX11_stoneOf 19 = .ok (.ldc_w 308, 3) := by decide +kernel
theorem dX11_stoneOf_22 : decode cX11_stoneOf 22 = .ok (.invokespecial 163, 3) := by decide +kernel
theorem dX11_stoneOf_25 : decode cX11_stoneOf 25 = .ok (.athrow, 1) := by decide +kernel
theorem dX11_stoneOf_26 : decode cX11_stoneOf 26 = .ok (.aload_n 0, 1) := by decide +kernel
theorem dX11_stoneOf_27 : decode cX11_stoneOf 27 = .ok (.getfield 19, 3) := by decide +kernel
theorem dX11_stoneOf_30 : decode cX11_stoneOf 30 = .ok (.iload_n 1, 1) := by decide +kernel
theorem dX11_stoneOf_31 : decode cX11_stoneOf 31 = .ok (.invokevirtual 166, 3) := by decide +kernel
theorem dX11_stoneOf_34 : decode cX11_stoneOf 34 = .ok (.checkcast 206, 3) := by decide +kernel
theorem dX11_stoneOf_37 : decode cX11_stoneOf 37 = .ok (.areturn, 1) := by decide +kernel
def F_X11_init (a0 : Nat) (h0 : PM) : Option (Unit × PM) := nO h0 ((a0 + 10)) 0 fun h1 => cl (F_Jx4a65c_init_da8c8 ((a0 + 10)) h1) fun r2 h3 => pR h3 a0 12 0 ((a0 + 10)) fun h5 => nO h5 ((a0 + 20)) 0 fun h6 => cl (F_Jx4a65c_init_da8c8 ((a0 + 20)) h6) fun r7 h8 => pR h8 a0 12 1 ((a0 + 20)) fun h10 => nO h10 ((a0 + 30)) 0 fun h11 => cl (F_Jx4a65c_init_da8c8 ((a0 + 30)) h11) fun r12 h13 => pR h13 a0 12 2 ((a0 + 30)) fun h15 => nO h15 ((a0 + 40)) 10 fun h16 => cl (F_X9_init ((a0 + 40)) h16) fun r17 h18 => pR h18 a0 12 3 ((a0 + 40)) fun h20 => nO h20 ((a0 + 50)) 6 fun h21 => cl (F_X5_init ((a0 + 50)) h21) fun r22 h23 => pR h23 a0 12 4 ((a0 + 50)) fun h25 => nO h25 ((a0 + 60)) 8 fun h26 => cl (F_X7_init ((a0 + 60)) h26) fun r27 h28 => pR h28 a0 12 5 ((a0 + 60)) fun h30 => nO h30 ((a0 + 70)) 11 fun h31 => cl (F_X10_init ((a0 + 70)) h31) fun r32 h33 => pR h33 a0 12 6 ((a0 + 70)) fun h35 => nO h35 ((a0 + 80)) 3 fun h36 => cl (F_X2_init ((a0 + 80)) h36) fun r37 h38 => pR h38 a0 12 7 ((a0 + 80)) fun h40 => nO h40 ((a0 + 90)) 1 fun h41 => cl (F_X0_init ((a0 + 90)) h41) fun r42 h43 => pR h43 a0 12 8 ((a0 + 90)) fun h45 => pI h45 a0 12 9 0 fun h46 => some ((), h46)
set_option maxRecDepth 100000 in
set_option maxHeartbeats 4000000 in
theorem S_X11_init {a0 : Nat} {h0 : PM} (r : Unit) (h' : PM) (hF : F_X11_init a0 h0 = some (r, h')) : CN yX11_init cX11_init 1 none 86 3765 4 [.ref a0] h0 none h' := by
  obtain ⟨X, eX⟩ : ∃ X, X = (r, h') := ⟨_, rfl⟩
  rw [← eX] at hF
  have e1 : r = X.1 := by rw [eX]
  have e2 : h' = X.2 := by rw [eX]
  rw [e2]
  clear eX e1 e2
  unfold F_X11_init at hF
  refine CN_of (by decide) (fun ρ => Nat.le_of_ble_eq_true rfl) rfl ?_
  intro p l e s m args below meth c D cy base ρ hT C V hr hnm
  refine r_aload_n C dX11_init_0 rfl 0 rfl ?_
  refine r_objInit C dX11_init_1 ml_X11_3 im_obj cd_obj (by decide) (Nat.le_of_ble_eq_true rfl) ?_
  refine r_aload_n C dX11_init_4 rfl 0 rfl ?_
  refine k_new (a := (a0 + 10)) C dX11_init_5 cls_0 cn_X11_9 in_Jx4a65c ii_Jx4a65c (by decide) (by decide) hF (fun h1 hF => ?_)
  refine r_dup C dX11_init_8 rfl ?_
  obtain ⟨r2, h3, hc4, hF⟩ := cl_some hF
  refine r_callI (As := []) C dX11_init_9 V hT cal_Jx4a65c_init_da8c8 ml_X11_11 im_Jx4a65c_init_da8c8 rfl (by decide) rfl rfl (Nat.le_of_ble_eq_true rfl) (by decide) (by decide) (S_Jx4a65c_init_da8c8 _ _ hc4) ?_
  refine k_pR C dX11_init_12 fd_X11_12 (fun _ => hnm) (by decide) hF (fun h5 hF => ?_)
  refine r_aload_n C dX11_init_15 rfl 0 rfl ?_
  refine k_new (a := (a0 + 20)) C dX11_init_16 cls_0 cn_X11_9 in_Jx4a65c ii_Jx4a65c (by decide) (by decide) hF (fun h6 hF => ?_)
  refine r_dup C dX11_init_19 rfl ?_
  obtain ⟨r7, h8, hc9, hF⟩ := cl_some hF
  refine r_callI (As := []) C dX11_init_20 V hT cal_Jx4a65c_init_da8c8 ml_X11_11 im_Jx4a65c_init_da8c8 rfl (by decide) rfl rfl (Nat.le_of_ble_eq_true rfl) (by decide) (by decide) (S_Jx4a65c_init_da8c8 _ _ hc9) ?_
  refine k_pR C dX11_init_23 fd_X11_16 (fun _ => hnm) (by decide) hF (fun h10 hF => ?_)
  refine r_aload_n C dX11_init_26 rfl 0 rfl ?_
  refine k_new (a := (a0 + 30)) C dX11_init_27 cls_0 cn_X11_9 in_Jx4a65c ii_Jx4a65c (by decide) (by decide) hF (fun h11 hF => ?_)
  refine r_dup C dX11_init_30 rfl ?_
  obtain ⟨r12, h13, hc14, hF⟩ := cl_some hF
  refine r_callI (As := []) C dX11_init_31 V hT cal_Jx4a65c_init_da8c8 ml_X11_11 im_Jx4a65c_init_da8c8 rfl (by decide) rfl rfl (Nat.le_of_ble_eq_true rfl) (by decide) (by decide) (S_Jx4a65c_init_da8c8 _ _ hc14) ?_
  refine k_pR C dX11_init_34 fd_X11_19 (fun _ => hnm) (by decide) hF (fun h15 hF => ?_)
  refine r_aload_n C dX11_init_37 rfl 0 rfl ?_
  refine k_new (a := (a0 + 40)) C dX11_init_38 cls_10 cn_X11_22 in_X9 ii_X9 (by decide) (by decide) hF (fun h16 hF => ?_)
  refine r_dup C dX11_init_41 rfl ?_
  obtain ⟨r17, h18, hc19, hF⟩ := cl_some hF
  refine r_callIN (As := []) C dX11_init_42 V hT cal_X9_init mn_X11_24 im_X9_init rfl (by decide) rfl rfl (Nat.le_of_ble_eq_true rfl) (by decide) (by decide) (S_X9_init _ _ hc19) ?_
  refine k_pR C dX11_init_45 fd_X11_25 (fun _ => hnm) (by decide) hF (fun h20 hF => ?_)
  refine r_aload_n C dX11_init_48 rfl 0 rfl ?_
  refine k_new (a := (a0 + 50)) C dX11_init_49 cls_6 cn_X11_29 in_X5 ii_X5 (by decide) (by decide) hF (fun h21 hF => ?_)
  refine r_dup C dX11_init_52 rfl ?_
  obtain ⟨r22, h23, hc24, hF⟩ := cl_some hF
  refine r_callIN (As := []) C dX11_init_53 V hT cal_X5_init mn_X11_31 im_X5_init rfl (by decide) rfl rfl (Nat.le_of_ble_eq_true rfl) (by decide) (by decide) (S_X5_init _ _ hc24) ?_
  refine k_pR C dX11_init_56 fd_X11_32 (fun _ => hnm) (by decide) hF (fun h25 hF => ?_)
  refine r_aload_n C dX11_init_59 rfl 0 rfl ?_
  refine k_new (a := (a0 + 60)) C dX11_init_60 cls_8 cn_X11_36 in_X7 ii_X7 (by decide) (by decide) hF (fun h26 hF => ?_)
  refine r_dup C dX11_init_63 rfl ?_
  obtain ⟨r27, h28, hc29, hF⟩ := cl_some hF
  refine r_callI (As := []) C dX11_init_64 V hT cal_X7_init ml_X11_38 im_X7_init rfl (by decide) rfl rfl (Nat.le_of_ble_eq_true rfl) (by decide) (by decide) (S_X7_init _ _ hc29) ?_
  refine k_pR C dX11_init_67 fd_X11_39 (fun _ => hnm) (by decide) hF (fun h30 hF => ?_)
  refine r_aload_n C dX11_init_70 rfl 0 rfl ?_
  refine k_new (a := (a0 + 70)) C dX11_init_71 cls_11 cn_X11_43 in_X10 ii_X10 (by decide) (by decide) hF (fun h31 hF => ?_)
  refine r_dup C dX11_init_74 rfl ?_
  obtain ⟨r32, h33, hc34, hF⟩ := cl_some hF
  refine r_callIN (As := []) C dX11_init_75 V hT cal_X10_init mn_X11_45 im_X10_init rfl (by decide) rfl rfl (Nat.le_of_ble_eq_true rfl) (by decide) (by decide) (S_X10_init _ _ hc34) ?_
  refine k_pR C dX11_init_78 fd_X11_46 (fun _ => hnm) (by decide) hF (fun h35 hF => ?_)
  refine r_aload_n C dX11_init_81 rfl 0 rfl ?_
  refine k_new (a := (a0 + 80)) C dX11_init_82 cls_3 cn_X11_50 in_X2 ii_X2 (by decide) (by decide) hF (fun h36 hF => ?_)
  refine r_dup C dX11_init_85 rfl ?_
  obtain ⟨r37, h38, hc39, hF⟩ := cl_some hF
  refine r_callIN (As := []) C dX11_init_86 V hT cal_X2_init mn_X11_52 im_X2_init rfl (by decide) rfl rfl (Nat.le_of_ble_eq_true rfl) (by decide) (by decide) (S_X2_init _ _ hc39) ?_
  refine k_pR C dX11_init_89 fd_X11_53 (fun _ => hnm) (by decide) hF (fun h40 hF => ?_)
  refine r_aload_n C dX11_init_92 rfl 0 rfl ?_
  refine k_new (a := (a0 + 90)) C dX11_init_93 cls_1 cn_X11_57 in_X0 ii_X0 (by decide) (by decide) hF (fun h41 hF => ?_)
  refine r_dup C dX11_init_96 rfl ?_
  obtain ⟨r42, h43, hc44, hF⟩ := cl_some hF
  refine r_callIN (As := []) C dX11_init_97 V hT cal_X0_init mn_X11_59 im_X0_init rfl (by decide) rfl rfl (Nat.le_of_ble_eq_true rfl) (by decide) (by decide) (S_X0_init _ _ hc44) ?_
  refine k_pR C dX11_init_100 fd_X11_60 (fun _ => hnm) (by decide) hF (fun h45 hF => ?_)
  refine r_aload_n C dX11_init_103 rfl 0 rfl ?_
  refine r_iconst (v := 0) C dX11_init_104 (by decide) ?_
  refine k_pI C dX11_init_105 fd_X11_64 (fun z => by cases z) (by decide) hF (fun h46 hF => ?_)
  exact k_vret C dX11_init_108 hr (by decide) (by decide) hF
def F_X11_rough (a0 : Nat) (h0 : PM) : Option (Int32 × PM) := gR h0 a0 12 0 fun x1 => tst h0 x1 0 (cl (F_Jx4a65c_size_8abf5 x1 h0) fun r2 h3 => if r2 < 10 then (gR h3 a0 12 0 fun x5 => nO h3 ((2000 + 10 * Int32.toNatClampNeg (mI h3 x5 2))) 7 fun h6 => cl (F_X6_init ((2000 + 10 * Int32.toNatClampNeg (mI h3 x5 2))) h6) fun r7 h8 => tst h8 x5 0 (cl (F_Jx4a65c_add_9ea2d x5 ((2000 + 10 * Int32.toNatClampNeg (mI h3 x5 2))) h8) fun r10 h11 => some (r2, h11))) else (some ((-1), h3)))
set_option maxRecDepth 100000 in
set_option maxHeartbeats 4000000 in
theorem S_X11_rough {a0 : Nat} {h0 : PM} (r : Int32) (h' : PM) (hF : F_X11_rough a0 h0 = some (r, h')) : CN yX11_rough cX11_rough 2 (some .int) 5 94 7 [.ref a0] h0 (some (.int r)) h' := by
  obtain ⟨X, eX⟩ : ∃ X, X = (r, h') := ⟨_, rfl⟩
  rw [← eX] at hF
  have e1 : r = X.1 := by rw [eX]
  have e2 : h' = X.2 := by rw [eX]
  rw [e1, e2]
  clear eX e1 e2
  unfold F_X11_rough at hF
  refine CN_of (by decide) (fun ρ => Nat.le_of_ble_eq_true rfl) rfl ?_
  intro p l e s m args below meth c D cy base ρ hT C V hr hnm
  refine r_aload_n C dX11_rough_0 rfl 0 rfl ?_
  refine k_gR C dX11_rough_1 fd_X11_12 (by decide) hF (fun x1 hF => ?_)
  obtain ⟨ht, hF⟩ := tst_some hF
  obtain ⟨r2, h3, hc4, hF⟩ := cl_some hF
  refine r_callV (As := []) C dX11_rough_4 V hT cal_Jx4a65c_size_8abf5 cls_0 ml_X11_68 im_Jx4a65c_size_8abf5 se_Jx4a65c_size_8abf5 ht (by decide) rfl rfl (Nat.le_of_ble_eq_true rfl) (by decide) (by decide) (S_Jx4a65c_size_8abf5 _ _ hc4) ?_
  refine r_istore_n C dX11_rough_7 rfl (by decide) rfl ?_
  refine r_iload_n C dX11_rough_8 rfl 0 rfl ?_
  refine r_bipush (v := 10) C dX11_rough_9 (by decide) ?_
  refine r_icmp_lt (tgt := 16) C dX11_rough_11 (by decide) hF (fun hF => ?_) (fun hF => ?_)
  · refine r_aload_n C dX11_rough_16 rfl 1 rfl ?_
    refine k_gR C dX11_rough_17 fd_X11_12 (by decide) hF (fun x5 hF => ?_)
    refine k_new (a := (2000 + 10 * Int32.toNatClampNeg (mI h3 x5 2))) C dX11_rough_20 cls_7 cn_X11_72 in_X6 ii_X6 (by decide) (by decide) hF (fun h6 hF => ?_)
    refine r_dup C dX11_rough_23 rfl ?_
    obtain ⟨r7, h8, hc9, hF⟩ := cl_some hF
    refine r_callIN (As := []) C dX11_rough_24 V hT cal_X6_init mn_X11_74 im_X6_init rfl (by decide) rfl rfl (Nat.le_of_ble_eq_true rfl) (by decide) (by decide) (S_X6_init _ _ hc9) ?_
    obtain ⟨ht, hF⟩ := tst_some hF
    obtain ⟨r10, h11, hc12, hF⟩ := cl_some hF
    refine r_callV (As := [.ref ((2000 + 10 * Int32.toNatClampNeg (mI h3 x5 2)))]) C dX11_rough_27 V hT cal_Jx4a65c_add_9ea2d cls_0 ml_X11_75 im_Jx4a65c_add_9ea2d se_Jx4a65c_add_9ea2d ht (by decide) rfl rfl (Nat.le_of_ble_eq_true rfl) (by decide) (by decide) (S_Jx4a65c_add_9ea2d _ _ hc12) ?_
    refine r_pop C dX11_rough_30 rfl ?_
    refine r_iload_n C dX11_rough_31 rfl 0 rfl ?_
    exact k_iret C dX11_rough_32 hr (by decide) (by decide) hF
  · refine r_iconst (v := (-1)) C dX11_rough_14 (by decide) ?_
    exact k_iret C dX11_rough_15 hr (by decide) (by decide) hF
def F_X11_isNoLayer (a0 : Int64) (h0 : PM) : Option (Int32 × PM) := jn (fun (s1 : Int32) (h2 : PM) => rz s1 h2) fun k15 => if (lg_cmp (a0 &&& (-68719476736)) 0) = 0 then (k15 0 h0) else (k15 1 h0)
set_option maxRecDepth 100000 in
set_option maxHeartbeats 4000000 in
theorem S_X11_isNoLayer {a0 : Int64} {h0 : PM} (r : Int32) (h' : PM) (hF : F_X11_isNoLayer a0 h0 = some (r, h')) : CN yX11_isNoLayer cX11_isNoLayer 2 (some .boolean) 0 0 0 [.long a0] h0 (some (.int r)) h' := by
  obtain ⟨X, eX⟩ : ∃ X, X = (r, h') := ⟨_, rfl⟩
  rw [← eX] at hF
  have e1 : r = X.1 := by rw [eX]
  have e2 : h' = X.2 := by rw [eX]
  rw [e1, e2]
  clear eX e1 e2
  unfold F_X11_isNoLayer at hF
  refine CN_of (by decide) (fun ρ => Nat.le_of_ble_eq_true rfl) rfl ?_
  intro p l e s m args below meth c D cy base ρ hT C V hr hnm
  refine r_lload_n C dX11_isNoLayer_0 rfl 0 rfl ?_
  refine r_ldc2 C dX11_isNoLayer_1 cl_X11_325 ?_
  refine r_land C dX11_isNoLayer_4 ?_
  refine r_lconst (v := 0) C dX11_isNoLayer_5 (by decide) ?_
  refine r_lcmp C dX11_isNoLayer_6 ?_
  obtain ⟨k15, ek15, hF⟩ := jn_some hF
  have Jk15 : ∀ (s1 : Int32) (h2 : PM), k15 s1 h2 = some X → WP p l e (rmN 0 0 0) s m args below meth c D cy base ρ h0 0 0 2 (MQ below (QR D cy base ρ h0 (some (.int X.1)) X.2) args s 0 0 (fun q => base ≤ q)) 15 [] [.int s1] h2 := by
    intro s1 h2 hF
    rw [ek15] at hF
    exact k_zret C dX11_isNoLayer_15 hr (by decide) (by decide) hF
  refine r_if_eq (tgt := 14) C dX11_isNoLayer_7 (by decide) hF (fun hF => ?_) (fun hF => ?_)
  · refine r_iconst (v := 0) C dX11_isNoLayer_14 (by decide) ?_
    exact r_sub [] rfl (Jk15 _ _ hF)
  · refine r_iconst (v := 1) C dX11_isNoLayer_10 (by decide) ?_
    refine r_goto (tgt := 15) C dX11_isNoLayer_11 (by decide) ?_
    exact r_sub [] rfl (Jk15 _ _ hF)
def F_X11_roughOf (a0 : Nat) (a1 : Int32) (h0 : PM) : Option ((Nat ⊕ Nat) × PM) := jn (fun  (h1 : PM) => some (.inl 1, h1)) fun k15 => if a1 < 0 then (k15 h0) else (gR h0 a0 12 0 fun x2 => tst h0 x2 0 (cl (F_Jx4a65c_size_8abf5 x2 h0) fun r3 h4 => if a1 < r3 then (gR h4 a0 12 0 fun x6 => tst h4 x6 0 (cl (F_Jx4a65c_get_915e3 x6 a1 h4) fun r7 h8 => tst h8 r7 7 (some (.inr r7, h8)))) else (k15 h4)))
set_option maxRecDepth 100000 in
set_option maxHeartbeats 4000000 in
theorem S_X11_roughOf {a0 : Nat} {a1 : Int32} {h0 : PM} (r : Nat ⊕ Nat) (h' : PM) (hF : F_X11_roughOf a0 a1 h0 = some (r, h')) : CX yX11_roughOf cX11_roughOf 2 (some (.object "RoughStones$Rough")) 1 6 6 [.ref a0, .int a1] h0 (rX (fun v => some (.ref v)) r) h' := by
  obtain ⟨X, eX⟩ : ∃ X, X = (r, h') := ⟨_, rfl⟩
  rw [← eX] at hF
  have e1 : r = X.1 := by rw [eX]
  have e2 : h' = X.2 := by rw [eX]
  rw [e1, e2]
  clear eX e1 e2
  unfold F_X11_roughOf at hF
  refine CX_of (by decide) (fun ρ => Nat.le_of_ble_eq_true rfl) rfl ?_
  intro p l e s m args below meth c D cy base ρ hT C V hE hr hnm
  refine r_iload_n C dX11_roughOf_0 rfl 1 rfl ?_
  obtain ⟨k15, ek15, hF⟩ := jn_some hF
  have Jk15 : ∀  (h1 : PM), k15 h1 = some X → WP p l e (rmN 1 6 6) s m args below meth c D cy base ρ h0 0 0 2 (QX D cy base ρ h0 (rX (fun v => some (.ref v)) X.1) X.2 below args s 1 6) 15 [] [] h1 := by
    intro h1 hF
    rw [ek15] at hF
    exact k_thrW C V hT hE tk_X11_1_83_87 sx_X11_302 dX11_roughOf_15 dX11_roughOf_18 dX11_roughOf_19 dX11_roughOf_22 dX11_roughOf_25 (by decide) (Nat.le_of_ble_eq_true rfl) (by decide) (by decide) hF
  refine r_if_lt (tgt := 15) C dX11_roughOf_1 (by decide) hF (fun hF => ?_) (fun hF => ?_)
  · exact r_sub [] rfl (Jk15  _ hF)
  · refine r_iload_n C dX11_roughOf_4 rfl 1 rfl ?_
    refine r_aload_n C dX11_roughOf_5 rfl 0 rfl ?_
    refine k_gR C dX11_roughOf_6 fd_X11_12 (by decide) hF (fun x2 hF => ?_)
    obtain ⟨ht, hF⟩ := tst_some hF
    obtain ⟨r3, h4, hc5, hF⟩ := cl_some hF
    refine r_callV (As := []) C dX11_roughOf_9 V hT cal_Jx4a65c_size_8abf5 cls_0 ml_X11_68 im_Jx4a65c_size_8abf5 se_Jx4a65c_size_8abf5 ht (by decide) rfl rfl (Nat.le_of_ble_eq_true rfl) (by decide) (by decide) (S_Jx4a65c_size_8abf5 _ _ hc5) ?_
    refine r_icmp_lt (tgt := 26) C dX11_roughOf_12 (by decide) hF (fun hF => ?_) (fun hF => ?_)
    · refine r_aload_n C dX11_roughOf_26 rfl 0 rfl ?_
      refine k_gR C dX11_roughOf_27 fd_X11_12 (by decide) hF (fun x6 hF => ?_)
      refine r_iload_n C dX11_roughOf_30 rfl 1 rfl ?_
      obtain ⟨ht, hF⟩ := tst_some hF
      obtain ⟨r7, h8, hc9, hF⟩ := cl_some hF
      refine r_callV (As := [.int a1]) C dX11_roughOf_31 V hT cal_Jx4a65c_get_915e3 cls_0 ml_X11_166 im_Jx4a65c_get_915e3 se_Jx4a65c_get_915e3 ht (by decide) rfl rfl (Nat.le_of_ble_eq_true rfl) (by decide) (by decide) (S_Jx4a65c_get_915e3 _ _ hc9) ?_
      refine k_cast C dX11_roughOf_34 cls_7 cn_X11_72 hF (fun hF => ?_)
      exact k_aretX C dX11_roughOf_37 hr (by first | exact Or.inl ⟨_, rfl⟩ | exact Or.inr ⟨_, rfl⟩) (by decide) (by decide) hF
    · exact r_sub [] rfl (Jk15  _ hF)
def F_X11_scan (a0 : Nat) (a1 : Int32) (a2 : Int32) (a3 : Int64) (a5 : Int64) (h0 : PM) : Option ((Nat ⊕ Int32) × PM) := tst h0 a0 12 (cx (F_X11_roughOf a0 a1 h0) fun r1 h2 => jn (fun  (h7 : PM) => some (.inl 1, h7)) fun k17 => if a2 < 0 then (k17 h2) else (if a2 < 6 then (cl (F_X11_isNoLayer a3 h2) fun r8 h9 => jn (fun  (h11 : PM) => some (.inl 2, h11)) fun k42 => if ¬ r8 = 0 then (k42 h9) else (cl (F_X11_isNoLayer a5 h9) fun r12 h13 => if r12 = 0 then (gR h13 r1 7 0 fun x15 => sJ h13 x15 a2 (a3 &&& (a5 ^^^ (-1))) fun h16 => pZ h16 r1 7 1 0 fun h17 => gR h17 r1 7 0 fun x18 => aJ h17 x18 a2 fun x19 => cl (F_J13_bitCount_95d88 x19 h17) fun r20 h21 => some (.inr r20, h21)) else (k42 h13))) else (k17 h2)))
set_option maxRecDepth 100000 in
set_option maxHeartbeats 4000000 in
theorem S_X11_scan {a0 : Nat} {a1 : Int32} {a2 : Int32} {a3 : Int64} {a5 : Int64} {h0 : PM} (r : Nat ⊕ Int32) (h' : PM) (hF : F_X11_scan a0 a1 a2 a3 a5 h0 = some (r, h')) : CX yX11_scan cX11_scan 8 (some .int) 2 12 7 [.ref a0, .int a1, .int a2, .long a3, .long a5] h0 (rX (fun v => some (.int v)) r) h' := by
  obtain ⟨X, eX⟩ : ∃ X, X = (r, h') := ⟨_, rfl⟩
  rw [← eX] at hF
  have e1 : r = X.1 := by rw [eX]
  have e2 : h' = X.2 := by rw [eX]
  rw [e1, e2]
  clear eX e1 e2
  unfold F_X11_scan at hF
  refine CX_of (by decide) (fun ρ => Nat.le_of_ble_eq_true rfl) rfl ?_
  intro p l e s m args below meth c D cy base ρ hT C V hE hr hnm
  refine r_aload_n C dX11_scan_0 rfl 0 rfl ?_
  refine r_iload_n C dX11_scan_1 rfl 1 rfl ?_
  obtain ⟨ht, hF⟩ := tst_some hF
  obtain ⟨rx4, h2, hc3, hx5, hk6⟩ := cx_some hF
  refine r_callVX (As := [.int a1]) C dX11_scan_2 V hT hE cal_X11_roughOf cls_12 ml_X11_79 im_X11_roughOf se_X11_roughOf ht (by decide) rfl rfl (Nat.le_of_ble_eq_true rfl) (by decide) (by decide) (S_X11_roughOf _ _ hc3) (fun k9 e9 => hx5 k9 (rX_inl e9)) (fun v9 e9 => ?_)
  obtain ⟨r1, er, rfl⟩ := rX_inr e9
  have hF := hk6 r1 er
  refine r_astore C dX11_scan_5 (by decide) rfl ?_
  refine r_iload_n C dX11_scan_7 rfl 3 rfl ?_
  obtain ⟨k17, ek17, hF⟩ := jn_some hF
  have Jk17 : ∀  (h7 : PM), k17 h7 = some X → WP p l e (rmN 2 12 7) s m args below meth c D cy base ρ h0 1 6 8 (QX D cy base ρ h0 (rX (fun v => some (.int v)) X.1) X.2 below args s 2 12) 17 [] [] h7 := by
    intro h7 hF
    rw [ek17] at hF
    exact k_thr C V hT hE tk_X11_1_83_87 sx_X11_85 dX11_scan_17 dX11_scan_20 dX11_scan_21 dX11_scan_23 dX11_scan_26 (by decide) (Nat.le_of_ble_eq_true rfl) (by decide) (by decide) hF
  refine r_if_lt (tgt := 17) C dX11_scan_8 (by decide) hF (fun hF => ?_) (fun hF => ?_)
  · exact r_sub [] rfl (Jk17  _ hF)
  · refine r_iload_n C dX11_scan_11 rfl 3 rfl ?_
    refine r_bipush (v := 6) C dX11_scan_12 (by decide) ?_
    refine r_icmp_lt (tgt := 27) C dX11_scan_14 (by decide) hF (fun hF => ?_) (fun hF => ?_)
    · refine r_lload_n C dX11_scan_27 rfl 4 rfl ?_
      obtain ⟨r8, h9, hc10, hF⟩ := cl_some hF
      refine r_callS (As := [.long a3]) C dX11_scan_28 V hT cal_X11_isNoLayer ml_X11_90 sm_X11_isNoLayer (by decide) rfl rfl (Nat.le_of_ble_eq_true rfl) (by decide) (by decide) (S_X11_isNoLayer _ _ hc10) ?_
      obtain ⟨k42, ek42, hF⟩ := jn_some hF
      have Jk42 : ∀  (h11 : PM), k42 h11 = some X → WP p l e (rmN 2 12 7) s m args below meth c D cy base ρ h0 1 6 8 (QX D cy base ρ h0 (rX (fun v => some (.int v)) X.1) X.2 below args s 2 12) 42 [] [] h11 := by
        intro h11 hF
        rw [ek42] at hF
        exact k_thr C V hT hE tk_X11_2_94_98 sx_X11_96 dX11_scan_42 dX11_scan_45 dX11_scan_46 dX11_scan_48 dX11_scan_51 (by decide) (Nat.le_of_ble_eq_true rfl) (by decide) (by decide) hF
      refine r_if_ne (tgt := 42) C dX11_scan_31 (by decide) hF (fun hF => ?_) (fun hF => ?_)
      · exact r_sub [] rfl (Jk42  _ hF)
      · refine r_lload C dX11_scan_34 5 rfl ?_
        obtain ⟨r12, h13, hc14, hF⟩ := cl_some hF
        refine r_callS (As := [.long a5]) C dX11_scan_36 V hT cal_X11_isNoLayer ml_X11_90 sm_X11_isNoLayer (by decide) rfl rfl (Nat.le_of_ble_eq_true rfl) (by decide) (by decide) (S_X11_isNoLayer _ _ hc14) ?_
        refine r_if_eq (tgt := 52) C dX11_scan_39 (by decide) hF (fun hF => ?_) (fun hF => ?_)
        · refine r_aload C dX11_scan_52 0 rfl ?_
          refine k_gRr C dX11_scan_54 fr_X11_99 (by decide) hF (fun x15 hF => ?_)
          refine r_iload_n C dX11_scan_57 rfl 3 rfl ?_
          refine r_lload_n C dX11_scan_58 rfl 4 rfl ?_
          refine r_lload C dX11_scan_59 5 rfl ?_
          refine r_ldc2 C dX11_scan_61 cl_X11_103 ?_
          refine r_lxor C dX11_scan_64 ?_
          refine r_land C dX11_scan_65 ?_
          refine k_sJ C dX11_scan_66 hF (fun h16 hF => ?_)
          refine r_aload C dX11_scan_67 0 rfl ?_
          refine r_iconst (v := 0) C dX11_scan_69 (by decide) ?_
          refine k_pZ C dX11_scan_70 fd_X11_105 (fun z => by cases z) (by decide) hF (fun h17 hF => ?_)
          refine r_aload C dX11_scan_73 0 rfl ?_
          refine k_gRr C dX11_scan_75 fr_X11_99 (by decide) hF (fun x18 hF => ?_)
          refine r_iload_n C dX11_scan_78 rfl 3 rfl ?_
          refine k_aJ C dX11_scan_79 hF (fun x19 hF => ?_)
          obtain ⟨r20, h21, hc22, hF⟩ := cl_some hF
          refine r_callS (As := [.long x19]) C dX11_scan_80 V hT cal_J13_bitCount_95d88 ml_X11_109 sm_J13_bitCount_95d88 (by decide) rfl rfl (Nat.le_of_ble_eq_true rfl) (by decide) (by decide) (S_J13_bitCount_95d88 _ _ hc22) ?_
          exact k_iretX C dX11_scan_83 hr (by decide) (by decide) hF
        · exact r_sub [] rfl (Jk42  _ hF)
    · exact r_sub [] rfl (Jk17  _ hF)
def F_X11_stuff_L11 (c2 : Nat) (k37 : Int32 → PM → Option ((Nat ⊕ Int32) × PM)) : Nat → Int32 → Int32 → PM → Option ((Nat ⊕ Int32) × PM)
  | 0, _, _, _ => none
  | fu + 1, v9, v10, h11 => if 6 ≤ v10 then (k37 v9 h11) else (gR h11 c2 7 0 fun x12 => aJ h11 x12 v10 fun x13 => cl (F_J13_bitCount_95d88 x13 h11) fun r14 h15 => lt_ (v9 + r14) fun x17 => F_X11_stuff_L11 c2 k37 fu x17 (v10 + 1) h15)
def F_X11_stuff (a0 : Nat) (a1 : Int32) (h0 : PM) : Option ((Nat ⊕ Int32) × PM) := tst h0 a0 12 (cx (F_X11_roughOf a0 a1 h0) fun r1 h2 => jn (fun (v7 : Int32) (h8 : PM) => some (.inr v7, h8)) fun k37 => F_X11_stuff_L11 r1 k37 LF 0 0 h2)
set_option maxRecDepth 100000 in
set_option maxHeartbeats 4000000 in
theorem S_X11_stuff {a0 : Nat} {a1 : Int32} {h0 : PM} (r : Nat ⊕ Int32) (h' : PM) (hF : F_X11_stuff a0 a1 h0 = some (r, h')) : CX yX11_stuff cX11_stuff 5 (some .int) 1 6 7 [.ref a0, .int a1] h0 (rX (fun v => some (.int v)) r) h' := by
  obtain ⟨X, eX⟩ : ∃ X, X = (r, h') := ⟨_, rfl⟩
  rw [← eX] at hF
  have e1 : r = X.1 := by rw [eX]
  have e2 : h' = X.2 := by rw [eX]
  rw [e1, e2]
  clear eX e1 e2
  unfold F_X11_stuff at hF
  refine CX_of (by decide) (fun ρ => Nat.le_of_ble_eq_true rfl) rfl ?_
  intro p l e s m args below meth c D cy base ρ hT C V hE hr hnm
  refine r_aload_n C dX11_stuff_0 rfl 0 rfl ?_
  refine r_iload_n C dX11_stuff_1 rfl 1 rfl ?_
  obtain ⟨ht, hF⟩ := tst_some hF
  obtain ⟨rx4, h2, hc3, hx5, hk6⟩ := cx_some hF
  refine r_callVX (As := [.int a1]) C dX11_stuff_2 V hT hE cal_X11_roughOf cls_12 ml_X11_79 im_X11_roughOf se_X11_roughOf ht (by decide) rfl rfl (Nat.le_of_ble_eq_true rfl) (by decide) (by decide) (S_X11_roughOf _ _ hc3) (fun k9 e9 => hx5 k9 (rX_inl e9)) (fun v9 e9 => ?_)
  obtain ⟨r1, er, rfl⟩ := rX_inr e9
  have hF := hk6 r1 er
  refine r_astore_n C dX11_stuff_5 rfl (by decide) rfl ?_
  refine r_iconst (v := 0) C dX11_stuff_6 (by decide) ?_
  refine r_istore_n C dX11_stuff_7 rfl (by decide) rfl ?_
  refine r_iconst (v := 0) C dX11_stuff_8 (by decide) ?_
  refine r_istore C dX11_stuff_9 (by decide) rfl ?_
  obtain ⟨k37, ek37, hF⟩ := jn_some hF
  have Jk37 : ∀ (v7 : Int32) (h8 : PM), k37 v7 h8 = some X → WP p l e (rmN 1 6 7) s m args below meth c D cy base ρ h0 1 6 5 (QX D cy base ρ h0 (rX (fun v => some (.int v)) X.1) X.2 below args s 1 6) 37 [(3, .int v7)] [] h8 := by
    intro v7 h8 hF
    rw [ek37] at hF
    refine r_iload_n C dX11_stuff_37 rfl 0 rfl ?_
    exact k_iretX C dX11_stuff_38 hr (by decide) (by decide) hF
  have L11 : ∀ (fu : Nat) (v9 : Int32) (v10 : Int32) (h11 : PM), F_X11_stuff_L11 r1 k37 fu v9 v10 h11 = some X → WP p l e (rmN 1 6 7) s m args below meth c D cy base ρ h0 1 6 5 (QX D cy base ρ h0 (rX (fun v => some (.int v)) X.1) X.2 below args s 1 6) 11 [(2, .ref r1), (3, .int v9), (4, .int v10)] [] h11 := by
    intro fu
    induction fu with
    | zero => intro v9 v10 h11 hF; rw [F_X11_stuff_L11.eq_1] at hF; cases hF
    | succ fu ih =>
      intro v9 v10 h11 hF
      rw [F_X11_stuff_L11.eq_2] at hF
      refine r_iload C dX11_stuff_11 2 rfl ?_
      refine r_bipush (v := 6) C dX11_stuff_13 (by decide) ?_
      refine r_icmp_ge (tgt := 37) C dX11_stuff_15 (by decide) hF (fun hF => ?_) (fun hF => ?_)
      · exact r_sub [1] rfl (Jk37 _ _ hF)
      · refine r_iload_n C dX11_stuff_18 rfl 1 rfl ?_
        refine r_aload_n C dX11_stuff_19 rfl 0 rfl ?_
        refine k_gRr C dX11_stuff_20 fr_X11_99 (by decide) hF (fun x12 hF => ?_)
        refine r_iload C dX11_stuff_23 2 rfl ?_
        refine k_aJ C dX11_stuff_25 hF (fun x13 hF => ?_)
        obtain ⟨r14, h15, hc16, hF⟩ := cl_some hF
        refine r_callS (As := [.long x13]) C dX11_stuff_26 V hT cal_J13_bitCount_95d88 ml_X11_109 sm_J13_bitCount_95d88 (by decide) rfl rfl (Nat.le_of_ble_eq_true rfl) (by decide) (by decide) (S_J13_bitCount_95d88 _ _ hc16) ?_
        refine r_iadd C dX11_stuff_29 ?_
        refine k_lti hF (fun x17 hF => ?_)
        refine r_istore_n C dX11_stuff_30 rfl (by decide) rfl ?_
        refine r_iinc (v := v10 + 1) C dX11_stuff_31 2 rfl (congrArg (fun z => v10 + z) (by decide)) (by decide) rfl ?_
        refine r_goto (tgt := 11) C dX11_stuff_34 (by decide) ?_
        exact r_sub [2, 1, 0] rfl (ih _ _ _ hF)
  exact r_sub [2, 1, 0] rfl (L11 _ _ _ _ hF)
def F_X11_feed (a0 : Nat) (a1 : Int32) (a2 : Int32) (a3 : Int32) (a4 : Int32) (a5 : Int32) (h0 : PM) : Option (Int32 × PM) := gR h0 a0 12 3 fun x1 => gI h0 x1 10 1 fun x2 => if (x2 + 20) ≤ 100 then (gR h0 a0 12 3 fun x3 => tst h0 x3 10 (cl (F_X9_append x3 a1 h0) fun r4 h5 => gR h5 a0 12 3 fun x7 => tst h5 x7 10 (cl (F_X9_append x7 a2 h5) fun r8 h9 => gR h9 a0 12 3 fun x11 => tst h9 x11 10 (cl (F_X9_append x11 a3 h9) fun r12 h13 => gR h13 a0 12 3 fun x15 => tst h13 x15 10 (cl (F_X9_append x15 a4 h13) fun r16 h17 => gR h17 a0 12 3 fun x19 => tst h17 x19 10 (cl (F_X9_append x19 a5 h17) fun r20 h21 => gR h21 a0 12 3 fun x23 => gI h21 x23 10 1 fun x24 => some (x24, h21))))))) else (some ((-1), h0))
set_option maxRecDepth 100000 in
set_option maxHeartbeats 4000000 in
theorem S_X11_feed {a0 : Nat} {a1 : Int32} {a2 : Int32} {a3 : Int32} {a4 : Int32} {a5 : Int32} {h0 : PM} (r : Int32) (h' : PM) (hF : F_X11_feed a0 a1 a2 a3 a4 a5 h0 = some (r, h')) : CN yX11_feed cX11_feed 6 (some .int) 0 0 1 [.ref a0, .int a1, .int a2, .int a3, .int a4, .int a5] h0 (some (.int r)) h' := by
  obtain ⟨X, eX⟩ : ∃ X, X = (r, h') := ⟨_, rfl⟩
  rw [← eX] at hF
  have e1 : r = X.1 := by rw [eX]
  have e2 : h' = X.2 := by rw [eX]
  rw [e1, e2]
  clear eX e1 e2
  unfold F_X11_feed at hF
  refine CN_of (by decide) (fun ρ => Nat.le_of_ble_eq_true rfl) rfl ?_
  intro p l e s m args below meth c D cy base ρ hT C V hr hnm
  refine r_aload_n C dX11_feed_0 rfl 0 rfl ?_
  refine k_gR C dX11_feed_1 fd_X11_25 (by decide) hF (fun x1 hF => ?_)
  refine k_gI C dX11_feed_4 fd_X11_115 (by decide) hF (fun x2 hF => ?_)
  refine r_bipush (v := 20) C dX11_feed_7 (by decide) ?_
  refine r_iadd C dX11_feed_9 ?_
  refine r_bipush (v := 100) C dX11_feed_10 (by decide) ?_
  refine r_icmp_le (tgt := 17) C dX11_feed_12 (by decide) hF (fun hF => ?_) (fun hF => ?_)
  · refine r_aload_n C dX11_feed_17 rfl 0 rfl ?_
    refine k_gR C dX11_feed_18 fd_X11_25 (by decide) hF (fun x3 hF => ?_)
    refine r_iload_n C dX11_feed_21 rfl 1 rfl ?_
    obtain ⟨ht, hF⟩ := tst_some hF
    obtain ⟨r4, h5, hc6, hF⟩ := cl_some hF
    refine r_callV (As := [.int a1]) C dX11_feed_22 V hT cal_X9_append cls_10 ml_X11_118 im_X9_append se_X9_append ht (by decide) rfl rfl (Nat.le_of_ble_eq_true rfl) (by decide) (by decide) (S_X9_append _ _ hc6) ?_
    refine r_aload_n C dX11_feed_25 rfl 0 rfl ?_
    refine k_gR C dX11_feed_26 fd_X11_25 (by decide) hF (fun x7 hF => ?_)
    refine r_iload_n C dX11_feed_29 rfl 2 rfl ?_
    obtain ⟨ht, hF⟩ := tst_some hF
    obtain ⟨r8, h9, hc10, hF⟩ := cl_some hF
    refine r_callV (As := [.int a2]) C dX11_feed_30 V hT cal_X9_append cls_10 ml_X11_118 im_X9_append se_X9_append ht (by decide) rfl rfl (Nat.le_of_ble_eq_true rfl) (by decide) (by decide) (S_X9_append _ _ hc10) ?_
    refine r_aload_n C dX11_feed_33 rfl 0 rfl ?_
    refine k_gR C dX11_feed_34 fd_X11_25 (by decide) hF (fun x11 hF => ?_)
    refine r_iload_n C dX11_feed_37 rfl 3 rfl ?_
    obtain ⟨ht, hF⟩ := tst_some hF
    obtain ⟨r12, h13, hc14, hF⟩ := cl_some hF
    refine r_callV (As := [.int a3]) C dX11_feed_38 V hT cal_X9_append cls_10 ml_X11_118 im_X9_append se_X9_append ht (by decide) rfl rfl (Nat.le_of_ble_eq_true rfl) (by decide) (by decide) (S_X9_append _ _ hc14) ?_
    refine r_aload_n C dX11_feed_41 rfl 0 rfl ?_
    refine k_gR C dX11_feed_42 fd_X11_25 (by decide) hF (fun x15 hF => ?_)
    refine r_iload C dX11_feed_45 4 rfl ?_
    obtain ⟨ht, hF⟩ := tst_some hF
    obtain ⟨r16, h17, hc18, hF⟩ := cl_some hF
    refine r_callV (As := [.int a4]) C dX11_feed_47 V hT cal_X9_append cls_10 ml_X11_118 im_X9_append se_X9_append ht (by decide) rfl rfl (Nat.le_of_ble_eq_true rfl) (by decide) (by decide) (S_X9_append _ _ hc18) ?_
    refine r_aload_n C dX11_feed_50 rfl 0 rfl ?_
    refine k_gR C dX11_feed_51 fd_X11_25 (by decide) hF (fun x19 hF => ?_)
    refine r_iload C dX11_feed_54 5 rfl ?_
    obtain ⟨ht, hF⟩ := tst_some hF
    obtain ⟨r20, h21, hc22, hF⟩ := cl_some hF
    refine r_callV (As := [.int a5]) C dX11_feed_56 V hT cal_X9_append cls_10 ml_X11_118 im_X9_append se_X9_append ht (by decide) rfl rfl (Nat.le_of_ble_eq_true rfl) (by decide) (by decide) (S_X9_append _ _ hc22) ?_
    refine r_aload_n C dX11_feed_59 rfl 0 rfl ?_
    refine k_gR C dX11_feed_60 fd_X11_25 (by decide) hF (fun x23 hF => ?_)
    refine k_gI C dX11_feed_63 fd_X11_115 (by decide) hF (fun x24 hF => ?_)
    exact k_iret C dX11_feed_66 hr (by decide) (by decide) hF
  · refine r_iconst (v := (-1)) C dX11_feed_15 (by decide) ?_
    exact k_iret C dX11_feed_16 hr (by decide) (by decide) hF
def F_X11_forgetCuts_L2 (c0 : Nat) (k34 : PM → Option (Unit × PM)) : Nat → Int32 → PM → Option (Unit × PM)
  | 0, _, _ => none
  | fu + 1, v2, h3 => gR h3 c0 12 0 fun x4 => tst h3 x4 0 (cl (F_Jx4a65c_size_8abf5 x4 h3) fun r5 h6 => if r5 ≤ v2 then (k34 h6) else (gR h6 c0 12 0 fun x8 => tst h6 x8 0 (cl (F_Jx4a65c_get_915e3 x8 v2 h6) fun r9 h10 => tst h10 r9 7 (pZ h10 r9 7 1 0 fun h12 => F_X11_forgetCuts_L2 c0 k34 fu (v2 + 1) h12))))
def F_X11_forgetCuts (a0 : Nat) (h0 : PM) : Option (Unit × PM) := jn (fun  (h1 : PM) => some ((), h1)) fun k34 => F_X11_forgetCuts_L2 a0 k34 LF 0 h0
set_option maxRecDepth 100000 in
set_option maxHeartbeats 4000000 in
theorem S_X11_forgetCuts {a0 : Nat} {h0 : PM} (r : Unit) (h' : PM) (hF : F_X11_forgetCuts a0 h0 = some (r, h')) : CN yX11_forgetCuts cX11_forgetCuts 2 none 0 0 3 [.ref a0] h0 none h' := by
  obtain ⟨X, eX⟩ : ∃ X, X = (r, h') := ⟨_, rfl⟩
  rw [← eX] at hF
  have e1 : r = X.1 := by rw [eX]
  have e2 : h' = X.2 := by rw [eX]
  rw [e2]
  clear eX e1 e2
  unfold F_X11_forgetCuts at hF
  refine CN_of (by decide) (fun ρ => Nat.le_of_ble_eq_true rfl) rfl ?_
  intro p l e s m args below meth c D cy base ρ hT C V hr hnm
  refine r_iconst (v := 0) C dX11_forgetCuts_0 (by decide) ?_
  refine r_istore_n C dX11_forgetCuts_1 rfl (by decide) rfl ?_
  obtain ⟨k34, ek34, hF⟩ := jn_some hF
  have Jk34 : ∀  (h1 : PM), k34 h1 = some X → WP p l e (rmN 0 0 3) s m args below meth c D cy base ρ h0 0 0 2 (MQ below (QR D cy base ρ h0 none X.2) args s 0 0 (fun q => base ≤ q)) 34 [] [] h1 := by
    intro h1 hF
    rw [ek34] at hF
    exact k_vret C dX11_forgetCuts_34 hr (by decide) (by decide) hF
  have L2 : ∀ (fu : Nat) (v2 : Int32) (h3 : PM), F_X11_forgetCuts_L2 a0 k34 fu v2 h3 = some X → WP p l e (rmN 0 0 3) s m args below meth c D cy base ρ h0 0 0 2 (MQ below (QR D cy base ρ h0 none X.2) args s 0 0 (fun q => base ≤ q)) 2 [(0, .ref a0), (1, .int v2)] [] h3 := by
    intro fu
    induction fu with
    | zero => intro v2 h3 hF; rw [F_X11_forgetCuts_L2.eq_1] at hF; cases hF
    | succ fu ih =>
      intro v2 h3 hF
      rw [F_X11_forgetCuts_L2.eq_2] at hF
      refine r_iload_n C dX11_forgetCuts_2 rfl 1 rfl ?_
      refine r_aload_n C dX11_forgetCuts_3 rfl 0 rfl ?_
      refine k_gR C dX11_forgetCuts_4 fd_X11_12 (by decide) hF (fun x4 hF => ?_)
      obtain ⟨ht, hF⟩ := tst_some hF
      obtain ⟨r5, h6, hc7, hF⟩ := cl_some hF
      refine r_callV (As := []) C dX11_forgetCuts_7 V hT cal_Jx4a65c_size_8abf5 cls_0 ml_X11_68 im_Jx4a65c_size_8abf5 se_Jx4a65c_size_8abf5 ht (by decide) rfl rfl (Nat.le_of_ble_eq_true rfl) (by decide) (by decide) (S_Jx4a65c_size_8abf5 _ _ hc7) ?_
      refine r_icmp_ge (tgt := 34) C dX11_forgetCuts_10 (by decide) hF (fun hF => ?_) (fun hF => ?_)
      · exact r_sub [] rfl (Jk34  _ hF)
      · refine r_aload_n C dX11_forgetCuts_13 rfl 0 rfl ?_
        refine k_gR C dX11_forgetCuts_14 fd_X11_12 (by decide) hF (fun x8 hF => ?_)
        refine r_iload_n C dX11_forgetCuts_17 rfl 1 rfl ?_
        obtain ⟨ht, hF⟩ := tst_some hF
        obtain ⟨r9, h10, hc11, hF⟩ := cl_some hF
        refine r_callV (As := [.int v2]) C dX11_forgetCuts_18 V hT cal_Jx4a65c_get_915e3 cls_0 ml_X11_166 im_Jx4a65c_get_915e3 se_Jx4a65c_get_915e3 ht (by decide) rfl rfl (Nat.le_of_ble_eq_true rfl) (by decide) (by decide) (S_Jx4a65c_get_915e3 _ _ hc11) ?_
        refine k_cast C dX11_forgetCuts_21 cls_7 cn_X11_72 hF (fun hF => ?_)
        refine r_iconst (v := 0) C dX11_forgetCuts_24 (by decide) ?_
        refine k_pZ C dX11_forgetCuts_25 fd_X11_105 (fun z => by cases z) (by decide) hF (fun h12 hF => ?_)
        refine r_iinc (v := v2 + 1) C dX11_forgetCuts_28 1 rfl (congrArg (fun z => v2 + z) (by decide)) (by decide) rfl ?_
        refine r_goto (tgt := 2) C dX11_forgetCuts_31 (by decide) ?_
        exact r_sub [1, 0] rfl (ih _ _ hF)
  exact r_sub [1, 0] rfl (L2 _ _ _ hF)
def F_X11_model (a0 : Nat) (a1 : Int32) (h0 : PM) : Option ((Nat ⊕ Int32) × PM) := jn (fun  (h1 : PM) => some (.inl 2, h1)) fun k15 => if a1 < 0 then (k15 h0) else (gR h0 a0 12 3 fun x2 => gI h0 x2 10 1 fun x3 => if a1 ≤ x3 then (gR h0 a0 12 1 fun x4 => tst h0 x4 0 (cl (F_Jx4a65c_size_8abf5 x4 h0) fun r5 h6 => if r5 < 6 then (gR h6 a0 12 3 fun x8 => tst h6 x8 10 (cl (F_X9_readModel x8 a1 h6) fun r9 h10 => gR h10 a0 12 3 fun x12 => pI h10 x12 10 1 0 fun h13 => if ¬ r9 = 0 then (gR h13 a0 12 1 fun x14 => nO h13 ((3000 + 50 * Int32.toNatClampNeg (mI h13 x14 2))) 4 fun h15 => gR h15 a0 12 3 fun x16 => cl (F_X3_init ((3000 + 50 * Int32.toNatClampNeg (mI h13 x14 2))) x16 h15) fun r17 h18 => tst h18 x14 0 (cl (F_Jx4a65c_add_9ea2d x14 ((3000 + 50 * Int32.toNatClampNeg (mI h13 x14 2))) h18) fun r20 h21 => tst h21 a0 12 (cl (F_X11_forgetCuts a0 h21) fun r23 h24 => some (.inr r5, h24)))) else (gR h13 a0 12 3 fun x26 => gI h13 x26 10 2 fun x27 => some (.inr ((-2) - x27), h13)))) else (some (.inl 3, h6)))) else (k15 h0))
set_option maxRecDepth 100000 in
set_option maxHeartbeats 4000000 in
theorem S_X11_model {a0 : Nat} {a1 : Int32} {h0 : PM} (r : Nat ⊕ Int32) (h' : PM) (hF : F_X11_model a0 a1 h0 = some (r, h')) : CX yX11_model cX11_model 4 (some .int) 41 327 7 [.ref a0, .int a1] h0 (rX (fun v => some (.int v)) r) h' := by
  obtain ⟨X, eX⟩ : ∃ X, X = (r, h') := ⟨_, rfl⟩
  rw [← eX] at hF
  have e1 : r = X.1 := by rw [eX]
  have e2 : h' = X.2 := by rw [eX]
  rw [e1, e2]
  clear eX e1 e2
  unfold F_X11_model at hF
  refine CX_of (by decide) (fun ρ => Nat.le_of_ble_eq_true rfl) rfl ?_
  intro p l e s m args below meth c D cy base ρ hT C V hE hr hnm
  refine r_iload_n C dX11_model_0 rfl 1 rfl ?_
  obtain ⟨k15, ek15, hF⟩ := jn_some hF
  have Jk15 : ∀  (h1 : PM), k15 h1 = some X → WP p l e (rmN 41 327 7) s m args below meth c D cy base ρ h0 0 0 4 (QX D cy base ρ h0 (rX (fun v => some (.int v)) X.1) X.2 below args s 41 327) 15 [] [] h1 := by
    intro h1 hF
    rw [ek15] at hF
    exact k_thr C V hT hE tk_X11_2_94_98 sx_X11_122 dX11_model_15 dX11_model_18 dX11_model_19 dX11_model_21 dX11_model_24 (by decide) (Nat.le_of_ble_eq_true rfl) (by decide) (by decide) hF
  refine r_if_lt (tgt := 15) C dX11_model_1 (by decide) hF (fun hF => ?_) (fun hF => ?_)
  · exact r_sub [] rfl (Jk15  _ hF)
  · refine r_iload_n C dX11_model_4 rfl 1 rfl ?_
    refine r_aload_n C dX11_model_5 rfl 0 rfl ?_
    refine k_gR C dX11_model_6 fd_X11_25 (by decide) hF (fun x2 hF => ?_)
    refine k_gI C dX11_model_9 fd_X11_115 (by decide) hF (fun x3 hF => ?_)
    refine r_icmp_le (tgt := 25) C dX11_model_12 (by decide) hF (fun hF => ?_) (fun hF => ?_)
    · refine r_aload_n C dX11_model_25 rfl 0 rfl ?_
      refine k_gR C dX11_model_26 fd_X11_16 (by decide) hF (fun x4 hF => ?_)
      obtain ⟨ht, hF⟩ := tst_some hF
      obtain ⟨r5, h6, hc7, hF⟩ := cl_some hF
      refine r_callV (As := []) C dX11_model_29 V hT cal_Jx4a65c_size_8abf5 cls_0 ml_X11_68 im_Jx4a65c_size_8abf5 se_Jx4a65c_size_8abf5 ht (by decide) rfl rfl (Nat.le_of_ble_eq_true rfl) (by decide) (by decide) (S_Jx4a65c_size_8abf5 _ _ hc7) ?_
      refine r_istore_n C dX11_model_32 rfl (by decide) rfl ?_
      refine r_iload_n C dX11_model_33 rfl 0 rfl ?_
      refine r_bipush (v := 6) C dX11_model_34 (by decide) ?_
      refine r_icmp_lt (tgt := 49) C dX11_model_36 (by decide) hF (fun hF => ?_) (fun hF => ?_)
      · refine r_aload_n C dX11_model_49 rfl 1 rfl ?_
        refine k_gR C dX11_model_50 fd_X11_25 (by decide) hF (fun x8 hF => ?_)
        refine r_iload_n C dX11_model_53 rfl 2 rfl ?_
        obtain ⟨ht, hF⟩ := tst_some hF
        obtain ⟨r9, h10, hc11, hF⟩ := cl_some hF
        refine r_callV (As := [.int a1]) C dX11_model_54 V hT cal_X9_readModel cls_10 ml_X11_129 im_X9_readModel se_X9_readModel ht (by decide) rfl rfl (Nat.le_of_ble_eq_true rfl) (by decide) (by decide) (S_X9_readModel _ _ hc11) ?_
        refine r_istore_n C dX11_model_57 rfl (by decide) rfl ?_
        refine r_aload_n C dX11_model_58 rfl 2 rfl ?_
        refine k_gR C dX11_model_59 fd_X11_25 (by decide) hF (fun x12 hF => ?_)
        refine r_iconst (v := 0) C dX11_model_62 (by decide) ?_
        refine k_pI C dX11_model_63 fd_X11_115 (fun z => by cases z) (by decide) hF (fun h13 hF => ?_)
        refine r_iload_n C dX11_model_66 rfl 0 rfl ?_
        refine r_if_ne (tgt := 81) C dX11_model_67 (by decide) hF (fun hF => ?_) (fun hF => ?_)
        · refine r_aload_n C dX11_model_81 rfl 2 rfl ?_
          refine k_gR C dX11_model_82 fd_X11_16 (by decide) hF (fun x14 hF => ?_)
          refine k_new (a := (3000 + 50 * Int32.toNatClampNeg (mI h13 x14 2))) C dX11_model_85 cls_4 cn_X11_136 in_X3 ii_X3 (by decide) (by decide) hF (fun h15 hF => ?_)
          refine r_dup C dX11_model_88 rfl ?_
          refine r_aload_n C dX11_model_89 rfl 2 rfl ?_
          refine k_gR C dX11_model_90 fd_X11_25 (by decide) hF (fun x16 hF => ?_)
          obtain ⟨r17, h18, hc19, hF⟩ := cl_some hF
          refine r_callI (As := [.ref x16]) C dX11_model_93 V hT cal_X3_init ml_X11_138 im_X3_init rfl (by decide) rfl rfl (Nat.le_of_ble_eq_true rfl) (by decide) (by decide) (S_X3_init _ _ hc19) ?_
          obtain ⟨ht, hF⟩ := tst_some hF
          obtain ⟨r20, h21, hc22, hF⟩ := cl_some hF
          refine r_callV (As := [.ref ((3000 + 50 * Int32.toNatClampNeg (mI h13 x14 2)))]) C dX11_model_96 V hT cal_Jx4a65c_add_9ea2d cls_0 ml_X11_75 im_Jx4a65c_add_9ea2d se_Jx4a65c_add_9ea2d ht (by decide) rfl rfl (Nat.le_of_ble_eq_true rfl) (by decide) (by decide) (S_Jx4a65c_add_9ea2d _ _ hc22) ?_
          refine r_pop C dX11_model_99 rfl ?_
          refine r_aload_n C dX11_model_100 rfl 2 rfl ?_
          obtain ⟨ht, hF⟩ := tst_some hF
          obtain ⟨r23, h24, hc25, hF⟩ := cl_some hF
          refine r_callV (As := []) C dX11_model_101 V hT cal_X11_forgetCuts cls_12 ml_X11_141 im_X11_forgetCuts se_X11_forgetCuts ht (by decide) rfl rfl (Nat.le_of_ble_eq_true rfl) (by decide) (by decide) (S_X11_forgetCuts _ _ hc25) ?_
          refine r_iload_n C dX11_model_104 rfl 1 rfl ?_
          exact k_iretX C dX11_model_105 hr (by decide) (by decide) hF
        · refine r_bipush (v := (-2)) C dX11_model_70 (by decide) ?_
          refine r_aload_n C dX11_model_72 rfl 2 rfl ?_
          refine k_gR C dX11_model_73 fd_X11_25 (by decide) hF (fun x26 hF => ?_)
          refine k_gI C dX11_model_76 fd_X11_133 (by decide) hF (fun x27 hF => ?_)
          refine r_isub C dX11_model_79 ?_
          exact k_iretX C dX11_model_80 hr (by decide) (by decide) hF
      · exact k_thr C V hT hE tk_X11_3_124_128 sx_X11_126 dX11_model_39 dX11_model_42 dX11_model_43 dX11_model_45 dX11_model_48 (by decide) (Nat.le_of_ble_eq_true rfl) (by decide) (by decide) hF
    · exact r_sub [] rfl (Jk15  _ hF)
def F_X11_price (a0 : Nat) (a1 : Int32) (a2 : Int32) (h0 : PM) : Option ((Nat ⊕ Int32) × PM) := jn (fun  (h1 : PM) => some (.inl 2, h1)) fun k23 => if a1 < 1 then (k23 h0) else (if 216 < a1 then (k23 h0) else (if a2 < 0 then (k23 h0) else (if a2 ≤ 10000 then (gR h0 a0 12 4 fun x2 => tst h0 x2 6 (cl (F_X5_put x2 a1 a2 h0) fun r3 h4 => if ¬ r3 = 0 then (tst h4 a0 12 (cl (F_X11_forgetCuts a0 h4) fun r6 h7 => gR h7 a0 12 4 fun x9 => gI h7 x9 6 2 fun x10 => some (.inr x10, h7))) else (some (.inr (-1), h4)))) else (k23 h0))))
set_option maxRecDepth 100000 in
set_option maxHeartbeats 4000000 in
theorem S_X11_price {a0 : Nat} {a1 : Int32} {a2 : Int32} {h0 : PM} (r : Nat ⊕ Int32) (h' : PM) (hF : F_X11_price a0 a1 a2 h0 = some (r, h')) : CX yX11_price cX11_price 3 (some .int) 1 6 6 [.ref a0, .int a1, .int a2] h0 (rX (fun v => some (.int v)) r) h' := by
  obtain ⟨X, eX⟩ : ∃ X, X = (r, h') := ⟨_, rfl⟩
  rw [← eX] at hF
  have e1 : r = X.1 := by rw [eX]
  have e2 : h' = X.2 := by rw [eX]
  rw [e1, e2]
  clear eX e1 e2
  unfold F_X11_price at hF
  refine CX_of (by decide) (fun ρ => Nat.le_of_ble_eq_true rfl) rfl ?_
  intro p l e s m args below meth c D cy base ρ hT C V hE hr hnm
  refine r_iload_n C dX11_price_0 rfl 1 rfl ?_
  refine r_iconst (v := 1) C dX11_price_1 (by decide) ?_
  obtain ⟨k23, ek23, hF⟩ := jn_some hF
  have Jk23 : ∀  (h1 : PM), k23 h1 = some X → WP p l e (rmN 1 6 6) s m args below meth c D cy base ρ h0 0 0 3 (QX D cy base ρ h0 (rX (fun v => some (.int v)) X.1) X.2 below args s 1 6) 23 [] [] h1 := by
    intro h1 hF
    rw [ek23] at hF
    exact k_thr C V hT hE tk_X11_2_94_98 sx_X11_144 dX11_price_23 dX11_price_26 dX11_price_27 dX11_price_29 dX11_price_32 (by decide) (Nat.le_of_ble_eq_true rfl) (by decide) (by decide) hF
  refine r_icmp_lt (tgt := 23) C dX11_price_2 (by decide) hF (fun hF => ?_) (fun hF => ?_)
  · exact r_sub [] rfl (Jk23  _ hF)
  · refine r_iload_n C dX11_price_5 rfl 1 rfl ?_
    refine r_sipush (v := 216) C dX11_price_6 (by decide) ?_
    refine r_icmp_gt (tgt := 23) C dX11_price_9 (by decide) hF (fun hF => ?_) (fun hF => ?_)
    · exact r_sub [] rfl (Jk23  _ hF)
    · refine r_iload_n C dX11_price_12 rfl 2 rfl ?_
      refine r_if_lt (tgt := 23) C dX11_price_13 (by decide) hF (fun hF => ?_) (fun hF => ?_)
      · exact r_sub [] rfl (Jk23  _ hF)
      · refine r_iload_n C dX11_price_16 rfl 2 rfl ?_
        refine r_sipush (v := 10000) C dX11_price_17 (by decide) ?_
        refine r_icmp_le (tgt := 33) C dX11_price_20 (by decide) hF (fun hF => ?_) (fun hF => ?_)
        · refine r_aload_n C dX11_price_33 rfl 0 rfl ?_
          refine k_gR C dX11_price_34 fd_X11_32 (by decide) hF (fun x2 hF => ?_)
          refine r_iload_n C dX11_price_37 rfl 1 rfl ?_
          refine r_iload_n C dX11_price_38 rfl 2 rfl ?_
          obtain ⟨ht, hF⟩ := tst_some hF
          obtain ⟨r3, h4, hc5, hF⟩ := cl_some hF
          refine r_callV (As := [.int a1, .int a2]) C dX11_price_39 V hT cal_X5_put cls_6 ml_X11_146 im_X5_put se_X5_put ht (by decide) rfl rfl (Nat.le_of_ble_eq_true rfl) (by decide) (by decide) (S_X5_put _ _ hc5) ?_
          refine r_if_ne (tgt := 47) C dX11_price_42 (by decide) hF (fun hF => ?_) (fun hF => ?_)
          · refine r_aload_n C dX11_price_47 rfl 0 rfl ?_
            obtain ⟨ht, hF⟩ := tst_some hF
            obtain ⟨r6, h7, hc8, hF⟩ := cl_some hF
            refine r_callV (As := []) C dX11_price_48 V hT cal_X11_forgetCuts cls_12 ml_X11_141 im_X11_forgetCuts se_X11_forgetCuts ht (by decide) rfl rfl (Nat.le_of_ble_eq_true rfl) (by decide) (by decide) (S_X11_forgetCuts _ _ hc8) ?_
            refine r_aload_n C dX11_price_51 rfl 0 rfl ?_
            refine k_gR C dX11_price_52 fd_X11_32 (by decide) hF (fun x9 hF => ?_)
            refine k_gI C dX11_price_55 fd_X11_150 (by decide) hF (fun x10 hF => ?_)
            exact k_iretX C dX11_price_58 hr (by decide) (by decide) hF
          · refine r_iconst (v := (-1)) C dX11_price_45 (by decide) ?_
            exact k_iretX C dX11_price_46 hr (by decide) (by decide) hF
        · exact r_sub [] rfl (Jk23  _ hF)
def F_X11_worth (a0 : Nat) (a1 : Int32) (h0 : PM) : Option ((Nat ⊕ Int32) × PM) := jn (fun  (h1 : PM) => some (.inl 2, h1)) fun k11 => if a1 < 0 then (k11 h0) else (if a1 ≤ 216 then (gR h0 a0 12 4 fun x2 => tst h0 x2 6 (cl (F_X5_worthOf x2 a1 h0) fun r3 h4 => some (.inr r3, h4))) else (k11 h0))
set_option maxRecDepth 100000 in
set_option maxHeartbeats 4000000 in
theorem S_X11_worth {a0 : Nat} {a1 : Int32} {h0 : PM} (r : Nat ⊕ Int32) (h' : PM) (hF : F_X11_worth a0 a1 h0 = some (r, h')) : CX yX11_worth cX11_worth 2 (some .int) 1 6 6 [.ref a0, .int a1] h0 (rX (fun v => some (.int v)) r) h' := by
  obtain ⟨X, eX⟩ : ∃ X, X = (r, h') := ⟨_, rfl⟩
  rw [← eX] at hF
  have e1 : r = X.1 := by rw [eX]
  have e2 : h' = X.2 := by rw [eX]
  rw [e1, e2]
  clear eX e1 e2
  unfold F_X11_worth at hF
  refine CX_of (by decide) (fun ρ => Nat.le_of_ble_eq_true rfl) rfl ?_
  intro p l e s m args below meth c D cy base ρ hT C V hE hr hnm
  refine r_iload_n C dX11_worth_0 rfl 1 rfl ?_
  obtain ⟨k11, ek11, hF⟩ := jn_some hF
  have Jk11 : ∀  (h1 : PM), k11 h1 = some X → WP p l e (rmN 1 6 6) s m args below meth c D cy base ρ h0 0 0 2 (QX D cy base ρ h0 (rX (fun v => some (.int v)) X.1) X.2 below args s 1 6) 11 [] [] h1 := by
    intro h1 hF
    rw [ek11] at hF
    exact k_thr C V hT hE tk_X11_2_94_98 sx_X11_153 dX11_worth_11 dX11_worth_14 dX11_worth_15 dX11_worth_17 dX11_worth_20 (by decide) (Nat.le_of_ble_eq_true rfl) (by decide) (by decide) hF
  refine r_if_lt (tgt := 11) C dX11_worth_1 (by decide) hF (fun hF => ?_) (fun hF => ?_)
  · exact r_sub [] rfl (Jk11  _ hF)
  · refine r_iload_n C dX11_worth_4 rfl 1 rfl ?_
    refine r_sipush (v := 216) C dX11_worth_5 (by decide) ?_
    refine r_icmp_le (tgt := 21) C dX11_worth_8 (by decide) hF (fun hF => ?_) (fun hF => ?_)
    · refine r_aload_n C dX11_worth_21 rfl 0 rfl ?_
      refine k_gR C dX11_worth_22 fd_X11_32 (by decide) hF (fun x2 hF => ?_)
      refine r_iload_n C dX11_worth_25 rfl 1 rfl ?_
      obtain ⟨ht, hF⟩ := tst_some hF
      obtain ⟨r3, h4, hc5, hF⟩ := cl_some hF
      refine r_callV (As := [.int a1]) C dX11_worth_26 V hT cal_X5_worthOf cls_6 ml_X11_155 im_X5_worthOf se_X5_worthOf ht (by decide) rfl rfl (Nat.le_of_ble_eq_true rfl) (by decide) (by decide) (S_X5_worthOf _ _ hc5) ?_
      exact k_iretX C dX11_worth_29 hr (by decide) (by decide) hF
    · exact r_sub [] rfl (Jk11  _ hF)
def F_X11_fit_L72 (c0 : Nat) (c3 : Int32) (c4 : Nat) (c5 : Nat) (k106 : PM → Option ((Nat ⊕ Int32) × PM)) (k97 : Int32 → PM → Option ((Nat ⊕ Int32) × PM)) : Nat → Int32 → PM → Option ((Nat ⊕ Int32) × PM)
  | 0, _, _ => none
  | fu + 1, v21, h22 => if v21 ≤ 0 then (k106 h22) else (gR h22 c0 12 5 fun x23 => gR h22 c4 7 0 fun x24 => tst h22 x23 8 (cl (F_X7_search x23 x24 c5 v21 c3 h22) fun r25 h26 => if r25 = 0 then (F_X11_fit_L72 c0 c3 c4 c5 k106 k97 fu (v21 + (-1)) h26) else (k97 v21 h26)))
def F_X11_fit (a0 : Nat) (a1 : Int32) (a2 : Int32) (a3 : Int32) (h0 : PM) : Option ((Nat ⊕ Int32) × PM) := tst h0 a0 12 (cx (F_X11_roughOf a0 a1 h0) fun r1 h2 => jn (fun  (h7 : PM) => some (.inl 4, h7)) fun k22 => if a2 < 0 then (k22 h2) else (gR h2 a0 12 1 fun x8 => tst h2 x8 0 (cl (F_Jx4a65c_size_8abf5 x8 h2) fun r9 h10 => if a2 < r9 then (jn (fun  (h12 : PM) => some (.inl 2, h12)) fun k42 => if a3 < 0 then (k42 h10) else (if a3 < 6 then (gR h10 a0 12 1 fun x13 => tst h10 x13 0 (cl (F_Jx4a65c_get_915e3 x13 a2 h10) fun r14 h15 => tst h15 r14 4 (gI h15 r14 4 4 fun x17 => jn (fun  (h18 : PM) => some (.inr 0, h18)) fun k106 => jn (fun (v19 : Int32) (h20 : PM) => some (.inr v19, h20)) fun k97 => F_X11_fit_L72 a0 a3 r1 r14 k106 k97 LF x17 h15))) else (k42 h10))) else (k22 h10))))
set_option maxRecDepth 100000 in
set_option maxHeartbeats 4000000 in
theorem S_X11_fit {a0 : Nat} {a1 : Int32} {a2 : Int32} {a3 : Int32} {h0 : PM} (r : Nat ⊕ Int32) (h' : PM) (hF : F_X11_fit a0 a1 a2 a3 h0 = some (r, h')) : CX yX11_fit cX11_fit 7 (some .int) 2 12 7 [.ref a0, .int a1, .int a2, .int a3] h0 (rX (fun v => some (.int v)) r) h' := by
  obtain ⟨X, eX⟩ : ∃ X, X = (r, h') := ⟨_, rfl⟩
  rw [← eX] at hF
  have e1 : r = X.1 := by rw [eX]
  have e2 : h' = X.2 := by rw [eX]
  rw [e1, e2]
  clear eX e1 e2
  unfold F_X11_fit at hF
  refine CX_of (by decide) (fun ρ => Nat.le_of_ble_eq_true rfl) rfl ?_
  intro p l e s m args below meth c D cy base ρ hT C V hE hr hnm
  refine r_aload_n C dX11_fit_0 rfl 0 rfl ?_
  refine r_iload_n C dX11_fit_1 rfl 1 rfl ?_
  obtain ⟨ht, hF⟩ := tst_some hF
  obtain ⟨rx4, h2, hc3, hx5, hk6⟩ := cx_some hF
  refine r_callVX (As := [.int a1]) C dX11_fit_2 V hT hE cal_X11_roughOf cls_12 ml_X11_79 im_X11_roughOf se_X11_roughOf ht (by decide) rfl rfl (Nat.le_of_ble_eq_true rfl) (by decide) (by decide) (S_X11_roughOf _ _ hc3) (fun k9 e9 => hx5 k9 (rX_inl e9)) (fun v9 e9 => ?_)
  obtain ⟨r1, er, rfl⟩ := rX_inr e9
  have hF := hk6 r1 er
  refine r_astore C dX11_fit_5 (by decide) rfl ?_
  refine r_iload_n C dX11_fit_7 rfl 3 rfl ?_
  obtain ⟨k22, ek22, hF⟩ := jn_some hF
  have Jk22 : ∀  (h7 : PM), k22 h7 = some X → WP p l e (rmN 2 12 7) s m args below meth c D cy base ρ h0 1 6 7 (QX D cy base ρ h0 (rX (fun v => some (.int v)) X.1) X.2 below args s 2 12) 22 [] [] h7 := by
    intro h7 hF
    rw [ek22] at hF
    exact k_thn C V hT hE tk_X11_4_159_163 sx_X11_161 dX11_fit_22 dX11_fit_25 dX11_fit_26 dX11_fit_28 dX11_fit_31 (by decide) (Nat.le_of_ble_eq_true rfl) (by decide) (by decide) hF
  refine r_if_lt (tgt := 22) C dX11_fit_8 (by decide) hF (fun hF => ?_) (fun hF => ?_)
  · exact r_sub [] rfl (Jk22  _ hF)
  · refine r_iload_n C dX11_fit_11 rfl 3 rfl ?_
    refine r_aload_n C dX11_fit_12 rfl 1 rfl ?_
    refine k_gR C dX11_fit_13 fd_X11_16 (by decide) hF (fun x8 hF => ?_)
    obtain ⟨ht, hF⟩ := tst_some hF
    obtain ⟨r9, h10, hc11, hF⟩ := cl_some hF
    refine r_callV (As := []) C dX11_fit_16 V hT cal_Jx4a65c_size_8abf5 cls_0 ml_X11_68 im_Jx4a65c_size_8abf5 se_Jx4a65c_size_8abf5 ht (by decide) rfl rfl (Nat.le_of_ble_eq_true rfl) (by decide) (by decide) (S_Jx4a65c_size_8abf5 _ _ hc11) ?_
    refine r_icmp_lt (tgt := 32) C dX11_fit_19 (by decide) hF (fun hF => ?_) (fun hF => ?_)
    · refine r_iload_n C dX11_fit_32 rfl 4 rfl ?_
      obtain ⟨k42, ek42, hF⟩ := jn_some hF
      have Jk42 : ∀  (h12 : PM), k42 h12 = some X → WP p l e (rmN 2 12 7) s m args below meth c D cy base ρ h0 1 6 7 (QX D cy base ρ h0 (rX (fun v => some (.int v)) X.1) X.2 below args s 2 12) 42 [] [] h12 := by
        intro h12 hF
        rw [ek42] at hF
        exact k_thr C V hT hE tk_X11_2_94_98 sx_X11_164 dX11_fit_42 dX11_fit_45 dX11_fit_46 dX11_fit_48 dX11_fit_51 (by decide) (Nat.le_of_ble_eq_true rfl) (by decide) (by decide) hF
      refine r_if_lt (tgt := 42) C dX11_fit_33 (by decide) hF (fun hF => ?_) (fun hF => ?_)
      · exact r_sub [] rfl (Jk42  _ hF)
      · refine r_iload_n C dX11_fit_36 rfl 4 rfl ?_
        refine r_bipush (v := 6) C dX11_fit_37 (by decide) ?_
        refine r_icmp_lt (tgt := 52) C dX11_fit_39 (by decide) hF (fun hF => ?_) (fun hF => ?_)
        · refine r_aload_n C dX11_fit_52 rfl 1 rfl ?_
          refine k_gR C dX11_fit_53 fd_X11_16 (by decide) hF (fun x13 hF => ?_)
          refine r_iload_n C dX11_fit_56 rfl 3 rfl ?_
          obtain ⟨ht, hF⟩ := tst_some hF
          obtain ⟨r14, h15, hc16, hF⟩ := cl_some hF
          refine r_callV (As := [.int a2]) C dX11_fit_57 V hT cal_Jx4a65c_get_915e3 cls_0 ml_X11_166 im_Jx4a65c_get_915e3 se_Jx4a65c_get_915e3 ht (by decide) rfl rfl (Nat.le_of_ble_eq_true rfl) (by decide) (by decide) (S_Jx4a65c_get_915e3 _ _ hc16) ?_
          refine k_cast C dX11_fit_60 cls_4 cn_X11_136 hF (fun hF => ?_)
          refine r_astore C dX11_fit_63 (by decide) rfl ?_
          refine r_aload C dX11_fit_65 0 rfl ?_
          refine k_gIr C dX11_fit_67 fr_X11_170 (by decide) hF (fun x17 hF => ?_)
          refine r_istore C dX11_fit_70 (by decide) rfl ?_
          obtain ⟨k106, ek106, hF⟩ := jn_some hF
          have Jk106 : ∀  (h18 : PM), k106 h18 = some X → WP p l e (rmN 2 12 7) s m args below meth c D cy base ρ h0 1 6 7 (QX D cy base ρ h0 (rX (fun v => some (.int v)) X.1) X.2 below args s 2 12) 106 [] [] h18 := by
            intro h18 hF
            rw [ek106] at hF
            refine r_iconst (v := 0) C dX11_fit_106 (by decide) ?_
            exact k_iretX C dX11_fit_107 hr (by decide) (by decide) hF
          obtain ⟨k97, ek97, hF⟩ := jn_some hF
          have Jk97 : ∀ (v19 : Int32) (h20 : PM), k97 v19 h20 = some X → WP p l e (rmN 2 12 7) s m args below meth c D cy base ρ h0 1 6 7 (QX D cy base ρ h0 (rX (fun v => some (.int v)) X.1) X.2 below args s 2 12) 97 [(6, .int v19)] [] h20 := by
            intro v19 h20 hF
            rw [ek97] at hF
            refine r_iload C dX11_fit_97 0 rfl ?_
            exact k_iretX C dX11_fit_99 hr (by decide) (by decide) hF
          have L72 : ∀ (fu : Nat) (v21 : Int32) (h22 : PM), F_X11_fit_L72 a0 a3 r1 r14 k106 k97 fu v21 h22 = some X → WP p l e (rmN 2 12 7) s m args below meth c D cy base ρ h0 1 6 7 (QX D cy base ρ h0 (rX (fun v => some (.int v)) X.1) X.2 below args s 2 12) 72 [(0, .ref a0), (3, .int a3), (4, .ref r1), (5, .ref r14), (6, .int v21)] [] h22 := by
            intro fu
            induction fu with
            | zero => intro v21 h22 hF; rw [F_X11_fit_L72.eq_1] at hF; cases hF
            | succ fu ih =>
              intro v21 h22 hF
              rw [F_X11_fit_L72.eq_2] at hF
              refine r_iload C dX11_fit_72 4 rfl ?_
              refine r_if_le (tgt := 106) C dX11_fit_74 (by decide) hF (fun hF => ?_) (fun hF => ?_)
              · exact r_sub [] rfl (Jk106  _ hF)
              · refine r_aload_n C dX11_fit_77 rfl 0 rfl ?_
                refine k_gR C dX11_fit_78 fd_X11_39 (by decide) hF (fun x23 hF => ?_)
                refine r_aload C dX11_fit_81 2 rfl ?_
                refine k_gRr C dX11_fit_83 fr_X11_99 (by decide) hF (fun x24 hF => ?_)
                refine r_aload C dX11_fit_86 3 rfl ?_
                refine r_iload C dX11_fit_88 4 rfl ?_
                refine r_iload_n C dX11_fit_90 rfl 1 rfl ?_
                obtain ⟨ht, hF⟩ := tst_some hF
                obtain ⟨r25, h26, hc27, hF⟩ := cl_some hF
                refine r_callV (As := [.ref x24, .ref r14, .int v21, .int a3]) C dX11_fit_91 V hT cal_X7_search cls_8 ml_X11_173 im_X7_search se_X7_search ht (by decide) rfl rfl (Nat.le_of_ble_eq_true rfl) (by decide) (by decide) (S_X7_search _ _ hc27) ?_
                refine r_if_eq (tgt := 100) C dX11_fit_94 (by decide) hF (fun hF => ?_) (fun hF => ?_)
                · refine r_iinc (v := v21 + (-1)) C dX11_fit_100 4 rfl (congrArg (fun z => v21 + z) (by decide)) (by decide) rfl ?_
                  refine r_goto (tgt := 72) C dX11_fit_103 (by decide) ?_
                  exact r_sub [1, 2, 3, 4, 0] rfl (ih _ _ hF)
                · exact r_sub [4] rfl (Jk97 _ _ hF)
          exact r_sub [3, 6, 2, 1, 0] rfl (L72 _ _ _ hF)
        · exact r_sub [] rfl (Jk42  _ hF)
    · exact r_sub [] rfl (Jk22  _ hF)
def F_X11_sawnRough (a0 : Nat) (a1 : Int32) (h0 : PM) : Option ((Nat ⊕ Nat) × PM) := tst h0 a0 12 (cx (F_X11_roughOf a0 a1 h0) fun r1 h2 => gI h2 r1 7 1 fun x7 => jn (fun  (h8 : PM) => some (.inr r1, h8)) fun k34 => if ¬ x7 = 0 then (k34 h2) else (gR h2 a0 12 5 fun x9 => gR h2 a0 12 1 fun x10 => gR h2 a0 12 4 fun x11 => tst h2 x9 8 (cl (F_X7_findBest x9 r1 x10 x11 h2) fun r12 h13 => pZ h13 r1 7 1 1 fun h15 => k34 h15)))
set_option maxRecDepth 100000 in
set_option maxHeartbeats 4000000 in
theorem S_X11_sawnRough {a0 : Nat} {a1 : Int32} {h0 : PM} (r : Nat ⊕ Nat) (h' : PM) (hF : F_X11_sawnRough a0 a1 h0 = some (r, h')) : CX yX11_sawnRough cX11_sawnRough 3 (some (.object "RoughStones$Rough")) 1 6 7 [.ref a0, .int a1] h0 (rX (fun v => some (.ref v)) r) h' := by
  obtain ⟨X, eX⟩ : ∃ X, X = (r, h') := ⟨_, rfl⟩
  rw [← eX] at hF
  have e1 : r = X.1 := by rw [eX]
  have e2 : h' = X.2 := by rw [eX]
  rw [e1, e2]
  clear eX e1 e2
  unfold F_X11_sawnRough at hF
  refine CX_of (by decide) (fun ρ => Nat.le_of_ble_eq_true rfl) rfl ?_
  intro p l e s m args below meth c D cy base ρ hT C V hE hr hnm
  refine r_aload_n C dX11_sawnRough_0 rfl 0 rfl ?_
  refine r_iload_n C dX11_sawnRough_1 rfl 1 rfl ?_
  obtain ⟨ht, hF⟩ := tst_some hF
  obtain ⟨rx4, h2, hc3, hx5, hk6⟩ := cx_some hF
  refine r_callVX (As := [.int a1]) C dX11_sawnRough_2 V hT hE cal_X11_roughOf cls_12 ml_X11_79 im_X11_roughOf se_X11_roughOf ht (by decide) rfl rfl (Nat.le_of_ble_eq_true rfl) (by decide) (by decide) (S_X11_roughOf _ _ hc3) (fun k9 e9 => hx5 k9 (rX_inl e9)) (fun v9 e9 => ?_)
  obtain ⟨r1, er, rfl⟩ := rX_inr e9
  have hF := hk6 r1 er
  refine r_astore_n C dX11_sawnRough_5 rfl (by decide) rfl ?_
  refine r_aload_n C dX11_sawnRough_6 rfl 0 rfl ?_
  refine k_gI C dX11_sawnRough_7 fd_X11_105 (by decide) hF (fun x7 hF => ?_)
  obtain ⟨k34, ek34, hF⟩ := jn_some hF
  have Jk34 : ∀  (h8 : PM), k34 h8 = some X → WP p l e (rmN 1 6 7) s m args below meth c D cy base ρ h0 1 6 3 (QX D cy base ρ h0 (rX (fun v => some (.ref v)) X.1) X.2 below args s 1 6) 34 [(2, .ref r1)] [] h8 := by
    intro h8 hF
    rw [ek34] at hF
    refine r_aload_n C dX11_sawnRough_34 rfl 0 rfl ?_
    exact k_aretX C dX11_sawnRough_35 hr (by first | exact Or.inl ⟨_, rfl⟩ | exact Or.inr ⟨_, rfl⟩) (by decide) (by decide) hF
  refine r_if_ne (tgt := 34) C dX11_sawnRough_10 (by decide) hF (fun hF => ?_) (fun hF => ?_)
  · exact r_sub [0] rfl (Jk34  _ hF)
  · refine r_aload_n C dX11_sawnRough_13 rfl 1 rfl ?_
    refine k_gR C dX11_sawnRough_14 fd_X11_39 (by decide) hF (fun x9 hF => ?_)
    refine r_aload_n C dX11_sawnRough_17 rfl 0 rfl ?_
    refine r_aload_n C dX11_sawnRough_18 rfl 1 rfl ?_
    refine k_gR C dX11_sawnRough_19 fd_X11_16 (by decide) hF (fun x10 hF => ?_)
    refine r_aload_n C dX11_sawnRough_22 rfl 1 rfl ?_
    refine k_gR C dX11_sawnRough_23 fd_X11_32 (by decide) hF (fun x11 hF => ?_)
    obtain ⟨ht, hF⟩ := tst_some hF
    obtain ⟨r12, h13, hc14, hF⟩ := cl_some hF
    refine r_callV (As := [.ref r1, .ref x10, .ref x11]) C dX11_sawnRough_26 V hT cal_X7_findBest cls_8 ml_X11_304 im_X7_findBest se_X7_findBest ht (by decide) rfl rfl (Nat.le_of_ble_eq_true rfl) (by decide) (by decide) (S_X7_findBest _ _ hc14) ?_
    refine r_aload_n C dX11_sawnRough_29 rfl 0 rfl ?_
    refine r_iconst (v := 1) C dX11_sawnRough_30 (by decide) ?_
    refine k_pZ C dX11_sawnRough_31 fd_X11_105 (fun z => by cases z) (by decide) hF (fun h15 hF => ?_)
    exact r_sub [0] rfl (Jk34  _ hF)
def F_X11_best (a0 : Nat) (a1 : Int32) (h0 : PM) : Option ((Nat ⊕ Int32) × PM) := tst h0 a0 12 (cx (F_X11_sawnRough a0 a1 h0) fun r1 h2 => gI h2 r1 7 4 fun x7 => some (.inr x7, h2))
set_option maxRecDepth 100000 in
set_option maxHeartbeats 4000000 in
theorem S_X11_best {a0 : Nat} {a1 : Int32} {h0 : PM} (r : Nat ⊕ Int32) (h' : PM) (hF : F_X11_best a0 a1 h0 = some (r, h')) : CX yX11_best cX11_best 2 (some .int) 1 6 8 [.ref a0, .int a1] h0 (rX (fun v => some (.int v)) r) h' := by
  obtain ⟨X, eX⟩ : ∃ X, X = (r, h') := ⟨_, rfl⟩
  rw [← eX] at hF
  have e1 : r = X.1 := by rw [eX]
  have e2 : h' = X.2 := by rw [eX]
  rw [e1, e2]
  clear eX e1 e2
  unfold F_X11_best at hF
  refine CX_of (by decide) (fun ρ => Nat.le_of_ble_eq_true rfl) rfl ?_
  intro p l e s m args below meth c D cy base ρ hT C V hE hr hnm
  refine r_aload_n C dX11_best_0 rfl 0 rfl ?_
  refine r_iload_n C dX11_best_1 rfl 1 rfl ?_
  obtain ⟨ht, hF⟩ := tst_some hF
  obtain ⟨rx4, h2, hc3, hx5, hk6⟩ := cx_some hF
  refine r_callVX (As := [.int a1]) C dX11_best_2 V hT hE cal_X11_sawnRough cls_12 ml_X11_177 im_X11_sawnRough se_X11_sawnRough ht (by decide) rfl rfl (Nat.le_of_ble_eq_true rfl) (by decide) (by decide) (S_X11_sawnRough _ _ hc3) (fun k9 e9 => hx5 k9 (rX_inl e9)) (fun v9 e9 => ?_)
  obtain ⟨r1, er, rfl⟩ := rX_inr e9
  have hF := hk6 r1 er
  refine k_gI C dX11_best_5 fd_X11_180 (by decide) hF (fun x7 hF => ?_)
  exact k_iretX C dX11_best_8 hr (by decide) (by decide) hF
def F_X11_sawn (a0 : Nat) (a1 : Int32) (a2 : Int32) (h0 : PM) : Option ((Nat ⊕ Int32) × PM) := tst h0 a0 12 (cx (F_X11_sawnRough a0 a1 h0) fun r1 h2 => jn (fun  (h7 : PM) => some (.inl 2, h7)) fun k15 => if a2 < 0 then (k15 h2) else (if a2 ≤ 2 then (if a2 = 0 then (gI h2 r1 7 2 fun x8 => some (.inr x8, h2)) else (if a2 = 1 then (gI h2 r1 7 3 fun x9 => some (.inr x9, h2)) else (gI h2 r1 7 5 fun x10 => some (.inr x10, h2)))) else (k15 h2)))
set_option maxRecDepth 100000 in
set_option maxHeartbeats 4000000 in
theorem S_X11_sawn {a0 : Nat} {a1 : Int32} {a2 : Int32} {h0 : PM} (r : Nat ⊕ Int32) (h' : PM) (hF : F_X11_sawn a0 a1 a2 h0 = some (r, h')) : CX yX11_sawn cX11_sawn 4 (some .int) 2 12 8 [.ref a0, .int a1, .int a2] h0 (rX (fun v => some (.int v)) r) h' := by
  obtain ⟨X, eX⟩ : ∃ X, X = (r, h') := ⟨_, rfl⟩
  rw [← eX] at hF
  have e1 : r = X.1 := by rw [eX]
  have e2 : h' = X.2 := by rw [eX]
  rw [e1, e2]
  clear eX e1 e2
  unfold F_X11_sawn at hF
  refine CX_of (by decide) (fun ρ => Nat.le_of_ble_eq_true rfl) rfl ?_
  intro p l e s m args below meth c D cy base ρ hT C V hE hr hnm
  refine r_aload_n C dX11_sawn_0 rfl 0 rfl ?_
  refine r_iload_n C dX11_sawn_1 rfl 1 rfl ?_
  obtain ⟨ht, hF⟩ := tst_some hF
  obtain ⟨rx4, h2, hc3, hx5, hk6⟩ := cx_some hF
  refine r_callVX (As := [.int a1]) C dX11_sawn_2 V hT hE cal_X11_sawnRough cls_12 ml_X11_177 im_X11_sawnRough se_X11_sawnRough ht (by decide) rfl rfl (Nat.le_of_ble_eq_true rfl) (by decide) (by decide) (S_X11_sawnRough _ _ hc3) (fun k9 e9 => hx5 k9 (rX_inl e9)) (fun v9 e9 => ?_)
  obtain ⟨r1, er, rfl⟩ := rX_inr e9
  have hF := hk6 r1 er
  refine r_astore_n C dX11_sawn_5 rfl (by decide) rfl ?_
  refine r_iload_n C dX11_sawn_6 rfl 3 rfl ?_
  obtain ⟨k15, ek15, hF⟩ := jn_some hF
  have Jk15 : ∀  (h7 : PM), k15 h7 = some X → WP p l e (rmN 2 12 8) s m args below meth c D cy base ρ h0 1 6 4 (QX D cy base ρ h0 (rX (fun v => some (.int v)) X.1) X.2 below args s 2 12) 15 [] [] h7 := by
    intro h7 hF
    rw [ek15] at hF
    exact k_thr C V hT hE tk_X11_2_94_98 sx_X11_183 dX11_sawn_15 dX11_sawn_18 dX11_sawn_19 dX11_sawn_21 dX11_sawn_24 (by decide) (Nat.le_of_ble_eq_true rfl) (by decide) (by decide) hF
  refine r_if_lt (tgt := 15) C dX11_sawn_7 (by decide) hF (fun hF => ?_) (fun hF => ?_)
  · exact r_sub [] rfl (Jk15  _ hF)
  · refine r_iload_n C dX11_sawn_10 rfl 3 rfl ?_
    refine r_iconst (v := 2) C dX11_sawn_11 (by decide) ?_
    refine r_icmp_le (tgt := 25) C dX11_sawn_12 (by decide) hF (fun hF => ?_) (fun hF => ?_)
    · refine r_iload_n C dX11_sawn_25 rfl 3 rfl ?_
      by_cases q0 : a2 = 0
      · rw [if_pos q0] at hF
        refine r_lookup (tgt := 52) C dX11_sawn_26 (by decide) (by rw [q0] <;> rfl) (by decide) ?_
        refine r_aload_n C dX11_sawn_52 rfl 0 rfl ?_
        refine k_gI C dX11_sawn_53 fd_X11_185 (by decide) hF (fun x8 hF => ?_)
        exact k_iretX C dX11_sawn_56 hr (by decide) (by decide) hF
      rw [if_neg q0] at hF
      by_cases q1 : a2 = 1
      · rw [if_pos q1] at hF
        refine r_lookup (tgt := 57) C dX11_sawn_26 (by decide) (by rw [q1] <;> rfl) (by decide) ?_
        refine r_aload_n C dX11_sawn_57 rfl 0 rfl ?_
        refine k_gI C dX11_sawn_58 fd_X11_188 (by decide) hF (fun x9 hF => ?_)
        exact k_iretX C dX11_sawn_61 hr (by decide) (by decide) hF
      rw [if_neg q1] at hF
      refine r_lookup (tgt := 62) (off := 36) C dX11_sawn_26 (by decide) ?_ (by decide) ?_
      · have z0 := sw_ne q0; have z1 := sw_ne q1
        have w0 : ((0 : Int32)).toInt = 0 := (by decide); have w1 : ((1 : Int32)).toInt = 1 := (by decide)
        rw [w0] at z0; rw [w1] at z1
        simp [Op.lookupswitch.offset, z0, Ne.symm z0, z1, Ne.symm z1]
      · refine r_aload_n C dX11_sawn_62 rfl 0 rfl ?_
        refine k_gI C dX11_sawn_63 fd_X11_189 (by decide) hF (fun x10 hF => ?_)
        exact k_iretX C dX11_sawn_66 hr (by decide) (by decide) hF
    · exact r_sub [] rfl (Jk15  _ hF)
def F_X11_cut (a0 : Nat) (a1 : Int32) (a2 : Int32) (a3 : Int32) (h0 : PM) : Option ((Nat ⊕ Int32) × PM) := tst h0 a0 12 (cx (F_X11_sawnRough a0 a1 h0) fun r1 h2 => jn (fun  (h7 : PM) => some (.inl 2, h7)) fun k17 => if a3 < 0 then (k17 h2) else (if a3 ≤ 6 then (jn (fun  (h8 : PM) => jn (fun (s9 : Int32) (h10 : PM) => some (.inr s9, h10)) fun k57 => jn (fun  (h11 : PM) => k57 (-1) h11) fun k56 => if a3 < 3 then (k56 h8) else (if 5 < a3 then (k56 h8) else (k57 (-1000) h8))) fun k40 => if a2 < 0 then (k40 h2) else (gI h2 r1 7 5 fun x12 => if a2 < x12 then (jn (fun (s13 : Int32) (h14 : PM) => some (.inr s13, h14)) fun k83 => if ¬ a2 = 0 then (gR h2 r1 7 7 fun x15 => tst h2 x15 2 (cl (F_X1_tell x15 a3 h2) fun r16 h17 => k83 r16 h17)) else (gR h2 r1 7 6 fun x19 => tst h2 x19 2 (cl (F_X1_tell x19 a3 h2) fun r20 h21 => k83 r20 h21))) else (k40 h2))) else (k17 h2)))
set_option maxRecDepth 100000 in
set_option maxHeartbeats 4000000 in
theorem S_X11_cut {a0 : Nat} {a1 : Int32} {a2 : Int32} {a3 : Int32} {h0 : PM} (r : Nat ⊕ Int32) (h' : PM) (hF : F_X11_cut a0 a1 a2 a3 h0 = some (r, h')) : CX yX11_cut cX11_cut 5 (some .int) 2 12 8 [.ref a0, .int a1, .int a2, .int a3] h0 (rX (fun v => some (.int v)) r) h' := by
  obtain ⟨X, eX⟩ : ∃ X, X = (r, h') := ⟨_, rfl⟩
  rw [← eX] at hF
  have e1 : r = X.1 := by rw [eX]
  have e2 : h' = X.2 := by rw [eX]
  rw [e1, e2]
  clear eX e1 e2
  unfold F_X11_cut at hF
  refine CX_of (by decide) (fun ρ => Nat.le_of_ble_eq_true rfl) rfl ?_
  intro p l e s m args below meth c D cy base ρ hT C V hE hr hnm
  refine r_aload_n C dX11_cut_0 rfl 0 rfl ?_
  refine r_iload_n C dX11_cut_1 rfl 1 rfl ?_
  obtain ⟨ht, hF⟩ := tst_some hF
  obtain ⟨rx4, h2, hc3, hx5, hk6⟩ := cx_some hF
  refine r_callVX (As := [.int a1]) C dX11_cut_2 V hT hE cal_X11_sawnRough cls_12 ml_X11_177 im_X11_sawnRough se_X11_sawnRough ht (by decide) rfl rfl (Nat.le_of_ble_eq_true rfl) (by decide) (by decide) (S_X11_sawnRough _ _ hc3) (fun k9 e9 => hx5 k9 (rX_inl e9)) (fun v9 e9 => ?_)
  obtain ⟨r1, er, rfl⟩ := rX_inr e9
  have hF := hk6 r1 er
  refine r_astore C dX11_cut_5 (by decide) rfl ?_
  refine r_iload_n C dX11_cut_7 rfl 4 rfl ?_
  obtain ⟨k17, ek17, hF⟩ := jn_some hF
  have Jk17 : ∀  (h7 : PM), k17 h7 = some X → WP p l e (rmN 2 12 8) s m args below meth c D cy base ρ h0 1 6 5 (QX D cy base ρ h0 (rX (fun v => some (.int v)) X.1) X.2 below args s 2 12) 17 [] [] h7 := by
    intro h7 hF
    rw [ek17] at hF
    exact k_thr C V hT hE tk_X11_2_94_98 sx_X11_192 dX11_cut_17 dX11_cut_20 dX11_cut_21 dX11_cut_23 dX11_cut_26 (by decide) (Nat.le_of_ble_eq_true rfl) (by decide) (by decide) hF
  refine r_if_lt (tgt := 17) C dX11_cut_8 (by decide) hF (fun hF => ?_) (fun hF => ?_)
  · exact r_sub [] rfl (Jk17  _ hF)
  · refine r_iload_n C dX11_cut_11 rfl 4 rfl ?_
    refine r_bipush (v := 6) C dX11_cut_12 (by decide) ?_
    refine r_icmp_le (tgt := 27) C dX11_cut_14 (by decide) hF (fun hF => ?_) (fun hF => ?_)
    · refine r_iload_n C dX11_cut_27 rfl 3 rfl ?_
      obtain ⟨k40, ek40, hF⟩ := jn_some hF
      have Jk40 : ∀  (h8 : PM), k40 h8 = some X → WP p l e (rmN 2 12 8) s m args below meth c D cy base ρ h0 1 6 5 (QX D cy base ρ h0 (rX (fun v => some (.int v)) X.1) X.2 below args s 2 12) 40 [(3, .int a3)] [] h8 := by
        intro h8 hF
        rw [ek40] at hF
        refine r_iload_n C dX11_cut_40 rfl 0 rfl ?_
        refine r_iconst (v := 3) C dX11_cut_41 (by decide) ?_
        obtain ⟨k57, ek57, hF⟩ := jn_some hF
        have Jk57 : ∀ (s9 : Int32) (h10 : PM), k57 s9 h10 = some X → WP p l e (rmN 2 12 8) s m args below meth c D cy base ρ h0 1 6 5 (QX D cy base ρ h0 (rX (fun v => some (.int v)) X.1) X.2 below args s 2 12) 57 [] [.int s9] h10 := by
          intro s9 h10 hF
          rw [ek57] at hF
          exact k_iretX C dX11_cut_57 hr (by decide) (by decide) hF
        obtain ⟨k56, ek56, hF⟩ := jn_some hF
        have Jk56 : ∀  (h11 : PM), k56 h11 = some X → WP p l e (rmN 2 12 8) s m args below meth c D cy base ρ h0 1 6 5 (QX D cy base ρ h0 (rX (fun v => some (.int v)) X.1) X.2 below args s 2 12) 56 [] [] h11 := by
          intro h11 hF
          rw [ek56] at hF
          refine r_iconst (v := (-1)) C dX11_cut_56 (by decide) ?_
          exact Jk57 _ _ hF
        refine r_icmp_lt (tgt := 56) C dX11_cut_42 (by decide) hF (fun hF => ?_) (fun hF => ?_)
        · exact r_sub [] rfl (Jk56  _ hF)
        · refine r_iload_n C dX11_cut_45 rfl 0 rfl ?_
          refine r_iconst (v := 5) C dX11_cut_46 (by decide) ?_
          refine r_icmp_gt (tgt := 56) C dX11_cut_47 (by decide) hF (fun hF => ?_) (fun hF => ?_)
          · exact r_sub [] rfl (Jk56  _ hF)
          · refine r_sipush (v := (-1000)) C dX11_cut_50 (by decide) ?_
            refine r_goto (tgt := 57) C dX11_cut_53 (by decide) ?_
            exact r_sub [] rfl (Jk57 _ _ hF)
      refine r_if_lt (tgt := 40) C dX11_cut_28 (by decide) hF (fun hF => ?_) (fun hF => ?_)
      · exact r_sub [4] rfl (Jk40  _ hF)
      · refine r_iload_n C dX11_cut_31 rfl 3 rfl ?_
        refine r_aload C dX11_cut_32 0 rfl ?_
        refine k_gI C dX11_cut_34 fd_X11_189 (by decide) hF (fun x12 hF => ?_)
        refine r_icmp_lt (tgt := 58) C dX11_cut_37 (by decide) hF (fun hF => ?_) (fun hF => ?_)
        · refine r_iload_n C dX11_cut_58 rfl 3 rfl ?_
          obtain ⟨k83, ek83, hF⟩ := jn_some hF
          have Jk83 : ∀ (s13 : Int32) (h14 : PM), k83 s13 h14 = some X → WP p l e (rmN 2 12 8) s m args below meth c D cy base ρ h0 1 6 5 (QX D cy base ρ h0 (rX (fun v => some (.int v)) X.1) X.2 below args s 2 12) 83 [] [.int s13] h14 := by
            intro s13 h14 hF
            rw [ek83] at hF
            exact k_iretX C dX11_cut_83 hr (by decide) (by decide) hF
          refine r_if_ne (tgt := 74) C dX11_cut_59 (by decide) hF (fun hF => ?_) (fun hF => ?_)
          · refine r_aload C dX11_cut_74 0 rfl ?_
            refine k_gRr C dX11_cut_76 fr_X11_203 (by decide) hF (fun x15 hF => ?_)
            refine r_iload_n C dX11_cut_79 rfl 4 rfl ?_
            obtain ⟨ht, hF⟩ := tst_some hF
            obtain ⟨r16, h17, hc18, hF⟩ := cl_some hF
            refine r_callV (As := [.int a3]) C dX11_cut_80 V hT cal_X1_tell cls_2 ml_X11_198 im_X1_tell se_X1_tell ht (by decide) rfl rfl (Nat.le_of_ble_eq_true rfl) (by decide) (by decide) (S_X1_tell _ _ hc18) ?_
            exact r_sub [] rfl (Jk83 _ _ hF)
          · refine r_aload C dX11_cut_62 0 rfl ?_
            refine k_gRr C dX11_cut_64 fr_X11_194 (by decide) hF (fun x19 hF => ?_)
            refine r_iload_n C dX11_cut_67 rfl 4 rfl ?_
            obtain ⟨ht, hF⟩ := tst_some hF
            obtain ⟨r20, h21, hc22, hF⟩ := cl_some hF
            refine r_callV (As := [.int a3]) C dX11_cut_68 V hT cal_X1_tell cls_2 ml_X11_198 im_X1_tell se_X1_tell ht (by decide) rfl rfl (Nat.le_of_ble_eq_true rfl) (by decide) (by decide) (S_X1_tell _ _ hc22) ?_
            refine r_goto (tgt := 83) C dX11_cut_71 (by decide) ?_
            exact r_sub [] rfl (Jk83 _ _ hF)
        · exact r_sub [4] rfl (Jk40  _ hF)
    · exact r_sub [] rfl (Jk17  _ hF)
def F_X11_done_L79 (c2 : Nat) (c3 : Int32) (k100 : PM → Option ((Nat ⊕ Int32) × PM)) : Nat → Int32 → PM → Option ((Nat ⊕ Int32) × PM)
  | 0, _, _ => none
  | fu + 1, v16, h17 => if 6 ≤ v16 then (k100 h17) else (gR h17 c2 7 0 fun x18 => sJ h17 x18 v16 0 fun h19 => F_X11_done_L79 c2 c3 k100 fu (v16 + 1) h19)
def F_X11_done (a0 : Nat) (a1 : Int32) (h0 : PM) : Option ((Nat ⊕ Int32) × PM) := tst h0 a0 12 (cx (F_X11_sawnRough a0 a1 h0) fun r1 h2 => gI h2 r1 7 5 fun x7 => gR h2 a0 12 2 fun x8 => tst h2 x8 0 (cl (F_Jx4a65c_size_8abf5 x8 h2) fun r9 h10 => if (r9 + x7) ≤ 40 then (jn (fun  (h12 : PM) => jn (fun  (h13 : PM) => jn (fun  (h14 : PM) => pZ h14 r1 7 1 0 fun h15 => some (.inr x7, h15)) fun k100 => F_X11_done_L79 r1 x7 k100 LF 0 h13) fun k76 => if x7 ≤ 1 then (k76 h12) else (gR h12 a0 12 2 fun x21 => nO h12 ((4000 + 10 * Int32.toNatClampNeg (mI h12 x21 2))) 9 fun h22 => gR h22 r1 7 7 fun x23 => cl (F_X8_init ((4000 + 10 * Int32.toNatClampNeg (mI h12 x21 2))) a1 x23 h22) fun r24 h25 => tst h25 x21 0 (cl (F_Jx4a65c_add_9ea2d x21 ((4000 + 10 * Int32.toNatClampNeg (mI h12 x21 2))) h25) fun r27 h28 => k76 h28))) fun k51 => if x7 ≤ 0 then (k51 h10) else (gR h10 a0 12 2 fun x30 => nO h10 ((4000 + 10 * Int32.toNatClampNeg (mI h10 x30 2))) 9 fun h31 => gR h31 r1 7 6 fun x32 => cl (F_X8_init ((4000 + 10 * Int32.toNatClampNeg (mI h10 x30 2))) a1 x32 h31) fun r33 h34 => tst h34 x30 0 (cl (F_Jx4a65c_add_9ea2d x30 ((4000 + 10 * Int32.toNatClampNeg (mI h10 x30 2))) h34) fun r36 h37 => k51 h37))) else (some (.inr (-1), h10))))
set_option maxRecDepth 100000 in
set_option maxHeartbeats 4000000 in
theorem S_X11_done {a0 : Nat} {a1 : Int32} {h0 : PM} (r : Nat ⊕ Int32) (h' : PM) (hF : F_X11_done a0 a1 h0 = some (r, h')) : CX yX11_done cX11_done 5 (some .int) 11 208 8 [.ref a0, .int a1] h0 (rX (fun v => some (.int v)) r) h' := by
  obtain ⟨X, eX⟩ : ∃ X, X = (r, h') := ⟨_, rfl⟩
  rw [← eX] at hF
  have e1 : r = X.1 := by rw [eX]
  have e2 : h' = X.2 := by rw [eX]
  rw [e1, e2]
  clear eX e1 e2
  unfold F_X11_done at hF
  refine CX_of (by decide) (fun ρ => Nat.le_of_ble_eq_true rfl) rfl ?_
  intro p l e s m args below meth c D cy base ρ hT C V hE hr hnm
  refine r_aload_n C dX11_done_0 rfl 0 rfl ?_
  refine r_iload_n C dX11_done_1 rfl 1 rfl ?_
  obtain ⟨ht, hF⟩ := tst_some hF
  obtain ⟨rx4, h2, hc3, hx5, hk6⟩ := cx_some hF
  refine r_callVX (As := [.int a1]) C dX11_done_2 V hT hE cal_X11_sawnRough cls_12 ml_X11_177 im_X11_sawnRough se_X11_sawnRough ht (by decide) rfl rfl (Nat.le_of_ble_eq_true rfl) (by decide) (by decide) (S_X11_sawnRough _ _ hc3) (fun k9 e9 => hx5 k9 (rX_inl e9)) (fun v9 e9 => ?_)
  obtain ⟨r1, er, rfl⟩ := rX_inr e9
  have hF := hk6 r1 er
  refine r_astore_n C dX11_done_5 rfl (by decide) rfl ?_
  refine r_aload_n C dX11_done_6 rfl 0 rfl ?_
  refine k_gI C dX11_done_7 fd_X11_189 (by decide) hF (fun x7 hF => ?_)
  refine r_istore_n C dX11_done_10 rfl (by decide) rfl ?_
  refine r_aload_n C dX11_done_11 rfl 2 rfl ?_
  refine k_gR C dX11_done_12 fd_X11_19 (by decide) hF (fun x8 hF => ?_)
  obtain ⟨ht, hF⟩ := tst_some hF
  obtain ⟨r9, h10, hc11, hF⟩ := cl_some hF
  refine r_callV (As := []) C dX11_done_15 V hT cal_Jx4a65c_size_8abf5 cls_0 ml_X11_68 im_Jx4a65c_size_8abf5 se_Jx4a65c_size_8abf5 ht (by decide) rfl rfl (Nat.le_of_ble_eq_true rfl) (by decide) (by decide) (S_Jx4a65c_size_8abf5 _ _ hc11) ?_
  refine r_iload_n C dX11_done_18 rfl 0 rfl ?_
  refine r_iadd C dX11_done_19 ?_
  refine r_bipush (v := 40) C dX11_done_20 (by decide) ?_
  refine r_icmp_le (tgt := 27) C dX11_done_22 (by decide) hF (fun hF => ?_) (fun hF => ?_)
  · refine r_iload_n C dX11_done_27 rfl 0 rfl ?_
    obtain ⟨k51, ek51, hF⟩ := jn_some hF
    have Jk51 : ∀  (h12 : PM), k51 h12 = some X → WP p l e (rmN 11 208 8) s m args below meth c D cy base ρ h0 6 107 5 (QX D cy base ρ h0 (rX (fun v => some (.int v)) X.1) X.2 below args s 11 208) 51 [(0, .ref a0), (1, .int a1), (2, .ref r1), (3, .int x7)] [] h12 := by
      intro h12 hF
      rw [ek51] at hF
      refine r_iload_n C dX11_done_51 rfl 3 rfl ?_
      refine r_iconst (v := 1) C dX11_done_52 (by decide) ?_
      obtain ⟨k76, ek76, hF⟩ := jn_some hF
      have Jk76 : ∀  (h13 : PM), k76 h13 = some X → WP p l e (rmN 11 208 8) s m args below meth c D cy base ρ h0 11 208 5 (QX D cy base ρ h0 (rX (fun v => some (.int v)) X.1) X.2 below args s 11 208) 76 [(2, .ref r1), (3, .int x7)] [] h13 := by
        intro h13 hF
        rw [ek76] at hF
        refine r_iconst (v := 0) C dX11_done_76 (by decide) ?_
        refine r_istore C dX11_done_77 (by decide) rfl ?_
        obtain ⟨k100, ek100, hF⟩ := jn_some hF
        have Jk100 : ∀  (h14 : PM), k100 h14 = some X → WP p l e (rmN 11 208 8) s m args below meth c D cy base ρ h0 11 208 5 (QX D cy base ρ h0 (rX (fun v => some (.int v)) X.1) X.2 below args s 11 208) 100 [(2, .ref r1), (3, .int x7)] [] h14 := by
          intro h14 hF
          rw [ek100] at hF
          refine r_aload_n C dX11_done_100 rfl 0 rfl ?_
          refine r_iconst (v := 0) C dX11_done_101 (by decide) ?_
          refine k_pZ C dX11_done_102 fd_X11_105 (fun z => by cases z) (by decide) hF (fun h15 hF => ?_)
          refine r_iload_n C dX11_done_105 rfl 1 rfl ?_
          exact k_iretX C dX11_done_106 hr (by decide) (by decide) hF
        have L79 : ∀ (fu : Nat) (v16 : Int32) (h17 : PM), F_X11_done_L79 r1 x7 k100 fu v16 h17 = some X → WP p l e (rmN 11 208 8) s m args below meth c D cy base ρ h0 11 208 5 (QX D cy base ρ h0 (rX (fun v => some (.int v)) X.1) X.2 below args s 11 208) 79 [(2, .ref r1), (3, .int x7), (4, .int v16)] [] h17 := by
          intro fu
          induction fu with
          | zero => intro v16 h17 hF; rw [F_X11_done_L79.eq_1] at hF; cases hF
          | succ fu ih =>
            intro v16 h17 hF
            rw [F_X11_done_L79.eq_2] at hF
            refine r_iload C dX11_done_79 2 rfl ?_
            refine r_bipush (v := 6) C dX11_done_81 (by decide) ?_
            refine r_icmp_ge (tgt := 100) C dX11_done_83 (by decide) hF (fun hF => ?_) (fun hF => ?_)
            · exact r_sub [0, 1] rfl (Jk100  _ hF)
            · refine r_aload_n C dX11_done_86 rfl 0 rfl ?_
              refine k_gRr C dX11_done_87 fr_X11_99 (by decide) hF (fun x18 hF => ?_)
              refine r_iload C dX11_done_90 2 rfl ?_
              refine r_lconst (v := 0) C dX11_done_92 (by decide) ?_
              refine k_sJ C dX11_done_93 hF (fun h19 hF => ?_)
              refine r_iinc (v := v16 + 1) C dX11_done_94 2 rfl (congrArg (fun z => v16 + z) (by decide)) (by decide) rfl ?_
              refine r_goto (tgt := 79) C dX11_done_97 (by decide) ?_
              exact r_sub [1, 2, 0] rfl (ih _ _ hF)
        exact r_sub [1, 2, 0] rfl (L79 _ _ _ hF)
      refine r_icmp_le (tgt := 76) C dX11_done_53 (by decide) hF (fun hF => ?_) (fun hF => ?_)
      · exact r_sub [2, 3] rfl (WP.cnt (by decide) (by decide) (Jk76  _ hF))
      · refine r_aload_n C dX11_done_56 rfl 0 rfl ?_
        refine k_gR C dX11_done_57 fd_X11_19 (by decide) hF (fun x21 hF => ?_)
        refine k_new (a := (4000 + 10 * Int32.toNatClampNeg (mI h12 x21 2))) C dX11_done_60 cls_9 cn_X11_206 in_X8 ii_X8 (by decide) (by decide) hF (fun h22 hF => ?_)
        refine r_dup C dX11_done_63 rfl ?_
        refine r_iload_n C dX11_done_64 rfl 1 rfl ?_
        refine r_aload_n C dX11_done_65 rfl 2 rfl ?_
        refine k_gRr C dX11_done_66 fr_X11_203 (by decide) hF (fun x23 hF => ?_)
        obtain ⟨r24, h25, hc26, hF⟩ := cl_some hF
        refine r_callI (As := [.int a1, .ref x23]) C dX11_done_69 V hT cal_X8_init ml_X11_208 im_X8_init rfl (by decide) rfl rfl (Nat.le_of_ble_eq_true rfl) (by decide) (by decide) (S_X8_init _ _ hc26) ?_
        obtain ⟨ht, hF⟩ := tst_some hF
        obtain ⟨r27, h28, hc29, hF⟩ := cl_some hF
        refine r_callV (As := [.ref ((4000 + 10 * Int32.toNatClampNeg (mI h12 x21 2)))]) C dX11_done_72 V hT cal_Jx4a65c_add_9ea2d cls_0 ml_X11_75 im_Jx4a65c_add_9ea2d se_Jx4a65c_add_9ea2d ht (by decide) rfl rfl (Nat.le_of_ble_eq_true rfl) (by decide) (by decide) (S_Jx4a65c_add_9ea2d _ _ hc29) ?_
        refine r_pop C dX11_done_75 rfl ?_
        exact r_sub [2, 3] rfl (Jk76  _ hF)
    refine r_if_le (tgt := 51) C dX11_done_28 (by decide) hF (fun hF => ?_) (fun hF => ?_)
    · exact r_sub [2, 3, 1, 0] rfl (WP.cnt (by decide) (by decide) (Jk51  _ hF))
    · refine r_aload_n C dX11_done_31 rfl 2 rfl ?_
      refine k_gR C dX11_done_32 fd_X11_19 (by decide) hF (fun x30 hF => ?_)
      refine k_new (a := (4000 + 10 * Int32.toNatClampNeg (mI h10 x30 2))) C dX11_done_35 cls_9 cn_X11_206 in_X8 ii_X8 (by decide) (by decide) hF (fun h31 hF => ?_)
      refine r_dup C dX11_done_38 rfl ?_
      refine r_iload_n C dX11_done_39 rfl 3 rfl ?_
      refine r_aload_n C dX11_done_40 rfl 1 rfl ?_
      refine k_gRr C dX11_done_41 fr_X11_194 (by decide) hF (fun x32 hF => ?_)
      obtain ⟨r33, h34, hc35, hF⟩ := cl_some hF
      refine r_callI (As := [.int a1, .ref x32]) C dX11_done_44 V hT cal_X8_init ml_X11_208 im_X8_init rfl (by decide) rfl rfl (Nat.le_of_ble_eq_true rfl) (by decide) (by decide) (S_X8_init _ _ hc35) ?_
      obtain ⟨ht, hF⟩ := tst_some hF
      obtain ⟨r36, h37, hc38, hF⟩ := cl_some hF
      refine r_callV (As := [.ref ((4000 + 10 * Int32.toNatClampNeg (mI h10 x30 2)))]) C dX11_done_47 V hT cal_Jx4a65c_add_9ea2d cls_0 ml_X11_75 im_Jx4a65c_add_9ea2d se_Jx4a65c_add_9ea2d ht (by decide) rfl rfl (Nat.le_of_ble_eq_true rfl) (by decide) (by decide) (S_Jx4a65c_add_9ea2d _ _ hc38) ?_
      refine r_pop C dX11_done_50 rfl ?_
      exact r_sub [2, 3, 1, 0] rfl (Jk51  _ hF)
  · refine r_iconst (v := (-1)) C dX11_done_25 (by decide) ?_
    exact k_iretX C dX11_done_26 hr (by decide) (by decide) hF
def F_X11_stoneOf (a0 : Nat) (a1 : Int32) (h0 : PM) : Option ((Nat ⊕ Nat) × PM) := jn (fun  (h1 : PM) => some (.inl 4, h1)) fun k15 => if a1 < 0 then (k15 h0) else (gR h0 a0 12 2 fun x2 => tst h0 x2 0 (cl (F_Jx4a65c_size_8abf5 x2 h0) fun r3 h4 => if a1 < r3 then (gR h4 a0 12 2 fun x6 => tst h4 x6 0 (cl (F_Jx4a65c_get_915e3 x6 a1 h4) fun r7 h8 => tst h8 r7 9 (some (.inr r7, h8)))) else (k15 h4)))
set_option maxRecDepth 100000 in
set_option maxHeartbeats 4000000 in
theorem S_X11_stoneOf {a0 : Nat} {a1 : Int32} {h0 : PM} (r : Nat ⊕ Nat) (h' : PM) (hF : F_X11_stoneOf a0 a1 h0 = some (r, h')) : CX yX11_stoneOf cX11_stoneOf 2 (some (.object "RoughStones$Stone")) 1 6 6 [.ref a0, .int a1] h0 (rX (fun v => some (.ref v)) r) h' := by
  obtain ⟨X, eX⟩ : ∃ X, X = (r, h') := ⟨_, rfl⟩
  rw [← eX] at hF
  have e1 : r = X.1 := by rw [eX]
  have e2 : h' = X.2 := by rw [eX]
  rw [e1, e2]
  clear eX e1 e2
  unfold F_X11_stoneOf at hF
  refine CX_of (by decide) (fun ρ => Nat.le_of_ble_eq_true rfl) rfl ?_
  intro p l e s m args below meth c D cy base ρ hT C V hE hr hnm
  refine r_iload_n C dX11_stoneOf_0 rfl 1 rfl ?_
  obtain ⟨k15, ek15, hF⟩ := jn_some hF
  have Jk15 : ∀  (h1 : PM), k15 h1 = some X → WP p l e (rmN 1 6 6) s m args below meth c D cy base ρ h0 0 0 2 (QX D cy base ρ h0 (rX (fun v => some (.ref v)) X.1) X.2 below args s 1 6) 15 [] [] h1 := by
    intro h1 hF
    rw [ek15] at hF
    exact k_thnW C V hT hE tk_X11_4_159_163 sx_X11_308 dX11_stoneOf_15 dX11_stoneOf_18 dX11_stoneOf_19 dX11_stoneOf_22 dX11_stoneOf_25 (by decide) (Nat.le_of_ble_eq_true rfl) (by decide) (by decide) hF
  refine r_if_lt (tgt := 15) C dX11_stoneOf_1 (by decide) hF (fun hF => ?_) (fun hF => ?_)
  · exact r_sub [] rfl (Jk15  _ hF)
  · refine r_iload_n C dX11_stoneOf_4 rfl 1 rfl ?_
    refine r_aload_n C dX11_stoneOf_5 rfl 0 rfl ?_
    refine k_gR C dX11_stoneOf_6 fd_X11_19 (by decide) hF (fun x2 hF => ?_)
    obtain ⟨ht, hF⟩ := tst_some hF
    obtain ⟨r3, h4, hc5, hF⟩ := cl_some hF
    refine r_callV (As := []) C dX11_stoneOf_9 V hT cal_Jx4a65c_size_8abf5 cls_0 ml_X11_68 im_Jx4a65c_size_8abf5 se_Jx4a65c_size_8abf5 ht (by decide) rfl rfl (Nat.le_of_ble_eq_true rfl) (by decide) (by decide) (S_Jx4a65c_size_8abf5 _ _ hc5) ?_
    refine r_icmp_lt (tgt := 26) C dX11_stoneOf_12 (by decide) hF (fun hF => ?_) (fun hF => ?_)
    · refine r_aload_n C dX11_stoneOf_26 rfl 0 rfl ?_
      refine k_gR C dX11_stoneOf_27 fd_X11_19 (by decide) hF (fun x6 hF => ?_)
      refine r_iload_n C dX11_stoneOf_30 rfl 1 rfl ?_
      obtain ⟨ht, hF⟩ := tst_some hF
      obtain ⟨r7, h8, hc9, hF⟩ := cl_some hF
      refine r_callV (As := [.int a1]) C dX11_stoneOf_31 V hT cal_Jx4a65c_get_915e3 cls_0 ml_X11_166 im_Jx4a65c_get_915e3 se_Jx4a65c_get_915e3 ht (by decide) rfl rfl (Nat.le_of_ble_eq_true rfl) (by decide) (by decide) (S_Jx4a65c_get_915e3 _ _ hc9) ?_
      refine k_cast C dX11_stoneOf_34 cls_9 cn_X11_206 hF (fun hF => ?_)
      exact k_aretX C dX11_stoneOf_37 hr (by first | exact Or.inl ⟨_, rfl⟩ | exact Or.inr ⟨_, rfl⟩) (by decide) (by decide) hF
    · exact r_sub [] rfl (Jk15  _ hF)
