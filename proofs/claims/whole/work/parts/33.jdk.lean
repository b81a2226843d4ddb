theorem cl_J13_314 : Cond.constantLong RJ13 314 (6148914691236517205) ∈ gw := gwm 539 (by decide +kernel) rfl
theorem cl_J13_316 : Cond.constantLong RJ13 316 (3689348814741910323) ∈ gw := gwm 540 (by decide +kernel) rfl
theorem cl_J13_318 : Cond.constantLong RJ13 318 (1085102592571150095) ∈ gw := gwm 541 (by decide +kernel) rfl
theorem ml_Jxa1e45_1 : Cond.methodLink RJxa1e45 1 objectInit ∈ gw := gwm 113 (by decide +kernel) rfl
theorem ml_Jxc12de_1 : Cond.methodLink RJxc12de 1 yJxa1e45_init_da8c8 ∈ gw := gwm 110 (by decide +kernel) rfl
theorem cal_Jxa1e45_init_da8c8 : Cal yJxa1e45_init_da8c8 cJxa1e45_init_da8c8 1 none 0 := ⟨gwm 112 (by decide +kernel) rfl, gwm 65 (by decide +kernel) rfl, ⟨by decide, by decide, by decide +kernel⟩, by decide⟩
theorem im_Jxa1e45_init_da8c8 : Cond.instanceMethod yJxa1e45_init_da8c8 ∈ gw := gwm 111 (by decide +kernel) rfl
theorem fd_Jxc12de_7 : FD RJxc12de 7 0 0 false := ⟨_, _, _, cls_0, by decide, gwm 118 (by decide +kernel) rfl, rfl, fun _ => by first | rfl | contradiction⟩
theorem ml_Jx4a65c_1 : Cond.methodLink RJx4a65c 1 yJxc12de_init_da8c8 ∈ gw := gwm 107 (by decide +kernel) rfl
theorem cal_Jxc12de_init_da8c8 : Cal yJxc12de_init_da8c8 cJxc12de_init_da8c8 1 none 0 := ⟨gwm 109 (by decide +kernel) rfl, gwm 66 (by decide +kernel) rfl, ⟨by decide, by decide, by decide +kernel⟩, by decide⟩
theorem im_Jxc12de_init_da8c8 : Cond.instanceMethod yJxc12de_init_da8c8 ∈ gw := gwm 108 (by decide +kernel) rfl
theorem gs_Jx4a65c_39 : Cond.fieldLink RJx4a65c 39 alN "DEFAULTCAPACITY_EMPTY_ELEMENTDATA" "[Ljava/lang/Object;" ∈ gw := gwm 114 (by decide +kernel) rfl
theorem fd_Jx4a65c_9 : FD RJx4a65c 9 0 1 false := ⟨_, _, _, cls_0, by decide, gwm 116 (by decide +kernel) rfl, rfl, fun _ => by first | rfl | contradiction⟩
theorem fd_Jx4a65c_48 : FD RJx4a65c 48 0 2 false := ⟨_, _, _, cls_0, by decide, gwm 117 (by decide +kernel) rfl, rfl, fun _ => by first | rfl | contradiction⟩
theorem ml_J15_105 : Cond.methodLink RJ15 105 yJ3_checkIndex_8e157 ∈ gw := gwm 521 (by decide +kernel) rfl
theorem cal_J3_checkIndex_8e157 : Cal yJ3_checkIndex_8e157 cJ3_checkIndex_8e157 3 (some .int) 3 := ⟨gwm 523 (by decide +kernel) rfl, gwm 87 (by decide +kernel) rfl, ⟨by decide, by decide, by decide +kernel⟩, by decide⟩
theorem sm_J3_checkIndex_8e157 : Cond.static yJ3_checkIndex_8e157 ∈ gw := gwm 522 (by decide +kernel) rfl
theorem ml_Jx4a65c_118 : Cond.methodLink RJx4a65c 118 yJ15_checkIndex_7cf53 ∈ gw := gwm 518 (by decide +kernel) rfl
theorem cal_J15_checkIndex_7cf53 : Cal yJ15_checkIndex_7cf53 cJ15_checkIndex_7cf53 2 (some .int) 2 := ⟨gwm 520 (by decide +kernel) rfl, gwm 86 (by decide +kernel) rfl, ⟨by decide, by decide, by decide +kernel⟩, by decide⟩
theorem sm_J15_checkIndex_7cf53 : Cond.static yJ15_checkIndex_7cf53 ∈ gw := gwm 519 (by decide +kernel) rfl
theorem ml_Jx4a65c_123 : Cond.methodLink RJx4a65c 123 yJx4a65c_elementData_915e3 ∈ gw := gwm 524 (by decide +kernel) rfl
theorem cal_Jx4a65c_elementData_915e3 : Cal yJx4a65c_elementData_915e3 cJx4a65c_elementData_915e3 2 (some (.object "java/lang/Object")) 1 := ⟨gwm 527 (by decide +kernel) rfl, gwm 67 (by decide +kernel) rfl, ⟨by decide, by decide, by decide +kernel⟩, by decide⟩
theorem im_Jx4a65c_elementData_915e3 : Cond.instanceMethod yJx4a65c_elementData_915e3 ∈ gw := gwm 525 (by decide +kernel) rfl
theorem se_Jx4a65c_elementData_915e3 : Cond.selects RJx4a65c yJx4a65c_elementData_915e3 yJx4a65c_elementData_915e3 ∈ gw := gwm 526 (by decide +kernel) rfl
theorem mm_J8_194 : Cond.methodLink RJ8 194 Lib.Math.max.name ∈ gw := gwm 447 (by decide +kernel) rfl
theorem mm_smax : Cond.static Lib.Math.max.name ∈ gw := gwm 448 (by decide +kernel) rfl
theorem mm_i : Cond.initialized "java/lang/Math" ∈ gw := gwm 79 (by decide +kernel) rfl
theorem mm_cmax : Cond.code Lib.Math.max.name Lib.Math.max.code 2 (some .int) ∈ gw := gwm 449 (by decide +kernel) rfl
theorem ct_J8_200 : Cond.constant RJ8 200 (2147483639) ∈ gw := gwm 450 (by decide +kernel) rfl
theorem cn_J7_110 : Cond.classLink RJ7 110 "[Ljava/lang/Object;" ∈ gw := gwm 482 (by decide +kernel) rfl
theorem cn_J7_2 : Cond.classLink RJ7 2 "java/lang/Object" ∈ gw := gwm 484 (by decide +kernel) rfl
theorem mm_J7_304 : Cond.methodLink RJ7 304 Lib.Math.min.name ∈ gw := gwm 485 (by decide +kernel) rfl
theorem mm_smin : Cond.static Lib.Math.min.name ∈ gw := gwm 486 (by decide +kernel) rfl
theorem mm_cmin : Cond.code Lib.Math.min.name Lib.Math.min.code 2 (some .int) ∈ gw := gwm 487 (by decide +kernel) rfl
theorem ca_3 : Cond.castable RX3 "java/lang/Object" ∈ nw := nwm 1570 (by decide +kernel) rfl
theorem ca_6 : Cond.castable RX6 "java/lang/Object" ∈ nw := nwm 1566 (by decide +kernel) rfl
theorem ca_8 : Cond.castable RX8 "java/lang/Object" ∈ nw := nwm 1572 (by decide +kernel) rfl
theorem ay_J7_150 : Cond.methodLink RJ7 150 arraycopyName ∈ gw := gwm 488 (by decide +kernel) rfl
theorem ay_n : Cond.native arraycopyName ∈ gw := gwm 490 (by decide +kernel) rfl
theorem ay_s : Cond.static arraycopyName ∈ gw := gwm 489 (by decide +kernel) rfl
theorem ay_i : Cond.initialized "java/lang/System" ∈ gw := gwm 81 (by decide +kernel) rfl
theorem gc_J7_86 : Cond.methodLink RJ7 86 gcN ∈ gw := gwm 457 (by decide +kernel) rfl
theorem gc_s : Cond.selects "[Ljava/lang/Object;" gcN gcN ∈ gw := gwm 1576 (by decide +kernel) rfl
theorem gc_i : Cond.instanceMethod gcN ∈ gw := gwm 458 (by decide +kernel) rfl
theorem gc_n : Cond.native gcN ∈ gw := gwm 478 (by decide +kernel) rfl
theorem ml_J7_300 : Cond.methodLink RJ7 300 yJ7_copyOf_6403c ∈ gw := gwm 479 (by decide +kernel) rfl
theorem cal_J7_copyOf_6403c : Cal yJ7_copyOf_6403c cJ7_copyOf_6403c 4 (some (.array (.object "java/lang/Object"))) 3 := ⟨gwm 481 (by decide +kernel) rfl, gwm 80 (by decide +kernel) rfl, ⟨by decide, by decide, by decide +kernel⟩, by decide⟩
theorem sm_J7_copyOf_6403c : Cond.static yJ7_copyOf_6403c ∈ gw := gwm 480 (by decide +kernel) rfl
theorem ml_Jx4a65c_73 : Cond.methodLink RJx4a65c 73 yJ8_newLength_cabcc ∈ gw := gwm 444 (by decide +kernel) rfl
theorem cal_J8_newLength_cabcc : Cal yJ8_newLength_cabcc cJ8_newLength_cabcc 4 (some .int) 3 := ⟨gwm 446 (by decide +kernel) rfl, gwm 78 (by decide +kernel) rfl, ⟨by decide, by decide, by decide +kernel⟩, by decide⟩
theorem sm_J8_newLength_cabcc : Cond.static yJ8_newLength_cabcc ∈ gw := gwm 445 (by decide +kernel) rfl
theorem ml_Jx4a65c_66 : Cond.methodLink RJx4a65c 66 yJ7_copyOf_1904c ∈ gw := gwm 454 (by decide +kernel) rfl
theorem cal_J7_copyOf_1904c : Cal yJ7_copyOf_1904c cJ7_copyOf_1904c 2 (some (.array (.object "java/lang/Object"))) 2 := ⟨gwm 456 (by decide +kernel) rfl, gwm 80 (by decide +kernel) rfl, ⟨by decide, by decide, by decide +kernel⟩, by decide⟩
theorem sm_J7_copyOf_1904c : Cond.static yJ7_copyOf_1904c ∈ gw := gwm 455 (by decide +kernel) rfl
theorem mm_Jx4a65c_79 : Cond.methodLink RJx4a65c 79 Lib.Math.max.name ∈ gw := gwm 491 (by decide +kernel) rfl
theorem cn_Jx4a65c_7 : Cond.classLink RJx4a65c 7 "java/lang/Object" ∈ gw := gwm 492 (by decide +kernel) rfl
theorem ml_Jx4a65c_69 : Cond.methodLink RJx4a65c 69 yJx4a65c_grow_92f84 ∈ gw := gwm 440 (by decide +kernel) rfl
theorem cal_Jx4a65c_grow_92f84 : Cal yJx4a65c_grow_92f84 cJx4a65c_grow_92f84 4 (some (.array (.object "java/lang/Object"))) 1 := ⟨gwm 443 (by decide +kernel) rfl, gwm 67 (by decide +kernel) rfl, ⟨by decide, by decide, by decide +kernel⟩, by decide⟩
theorem im_Jx4a65c_grow_92f84 : Cond.instanceMethod yJx4a65c_grow_92f84 ∈ gw := gwm 442 (by decide +kernel) rfl
theorem se_Jx4a65c_grow_92f84 : Cond.selects RJx4a65c yJx4a65c_grow_92f84 yJx4a65c_grow_92f84 ∈ gw := gwm 2 (by decide +kernel) rfl
theorem ml_Jx4a65c_129 : Cond.methodLink RJx4a65c 129 yJx4a65c_grow_d5877 ∈ gw := gwm 436 (by decide +kernel) rfl
theorem cal_Jx4a65c_grow_d5877 : Cal yJx4a65c_grow_d5877 cJx4a65c_grow_d5877 1 (some (.array (.object "java/lang/Object"))) 0 := ⟨gwm 439 (by decide +kernel) rfl, gwm 67 (by decide +kernel) rfl, ⟨by decide, by decide, by decide +kernel⟩, by decide⟩
theorem im_Jx4a65c_grow_d5877 : Cond.instanceMethod yJx4a65c_grow_d5877 ∈ gw := gwm 438 (by decide +kernel) rfl
theorem se_Jx4a65c_grow_d5877 : Cond.selects RJx4a65c yJx4a65c_grow_d5877 yJx4a65c_grow_d5877 ∈ gw := gwm 1 (by decide +kernel) rfl
theorem fs_Jx4a65c_63 : FDs RJx4a65c 63 0 0 "java/util/ArrayList" := ⟨_, _, _, cls_0, by decide, gwm 119 (by decide +kernel) rfl, rfl, gwm 120 (by decide +kernel) rfl⟩
theorem ml_Jx4a65c_131 : Cond.methodLink RJx4a65c 131 yJx4a65c_add_72be8 ∈ gw := gwm 432 (by decide +kernel) rfl
theorem cal_Jx4a65c_add_72be8 : Cal yJx4a65c_add_72be8 cJx4a65c_add_72be8 4 none 3 := ⟨gwm 435 (by decide +kernel) rfl, gwm 67 (by decide +kernel) rfl, ⟨by decide, by decide, by decide +kernel⟩, by decide⟩
theorem im_Jx4a65c_add_72be8 : Cond.instanceMethod yJx4a65c_add_72be8 ∈ gw := gwm 434 (by decide +kernel) rfl
theorem se_Jx4a65c_add_72be8 : Cond.selects RJx4a65c yJx4a65c_add_72be8 yJx4a65c_add_72be8 ∈ gw := gwm 0 (by decide +kernel) rfl
theorem dJ13_bitCount_95d88_0 : decode cJ13_bitCount_95d88 0 = .ok (.lload_n 0, 1) := by decide +kernel
theorem dJ13_bitCount_95d88_1 : decode cJ13_bitCount_95d88 1 = .ok (.lload_n 0, 1) := by decide +kernel
theorem dJ13_bitCount_95d88_2 : decode cJ13_bitCount_95d88 2 = .ok (.iconst 1, 1) := by decide +kernel
theorem dJ13_bitCount_95d88_3 : decode cJ13_bitCount_95d88 3 = .ok (.lushr, 1) := by decide +kernel
theorem dJ13_bitCount_95d88_4 : decode cJ13_bitCount_95d88 4 = .ok (.ldc2_w 314, 3) := by decide +kernel
theorem dJ13_bitCount_95d88_7 : decode cJ13_bitCount_95d88 7 = .ok (.land, 1) := by decide +kernel
theorem dJ13_bitCount_95d88_8 : decode cJ13_bitCount_95d88 8 = .ok (.lsub, 1) := by decide +kernel
theorem dJ13_bitCount_95d88_9 : decode cJ13_bitCount_95d88 9 = .ok (.lstore_n 0, 1) := by decide +kernel
theorem dJ13_bitCount_95d88_10 : decode cJ13_bitCount_95d88 10 = .ok (.lload_n 0, 1) := by decide +kernel
theorem dJ13_bitCount_95d88_11 : decode cJ13_bitCount_95d88 11 = .ok (.ldc2_w 316, 3) := by decide +kernel
theorem dJ13_bitCount_95d88_14 : decode cJ13_bitCount_95d88 14 = .ok (.land, 1) := by decide +kernel
theorem dJ13_bitCount_95d88_15 : decode cJ13_bitCount_95d88 15 = .ok (.lload_n 0, 1) := by decide +kernel
theorem dJ13_bitCount_95d88_16 : decode cJ13_bitCount_95d88 16 = .ok (.iconst 2, 1) := by decide +kernel
theorem dJ13_bitCount_95d88_17 : decode cJ13_bitCount_95d88 17 = .ok (.lushr, 1) := by decide +kernel
theorem dJ13_bitCount_95d88_18 : decode cJ13_bitCount_95d88 18 = .ok (.ldc2_w 316, 3) := by decide +kernel
theorem dJ13_bitCount_95d88_21 : decode cJ13_bitCount_95d88 21 = .ok (.land, 1) := by decide +kernel
theorem dJ13_bitCount_95d88_22 : decode cJ13_bitCount_95d88 22 = .ok (.ladd, 1) := by decide +kernel
theorem dJ13_bitCount_95d88_23 : decode cJ13_bitCount_95d88 23 = .ok (.lstore_n 0, 1) := by decide +kernel
theorem dJ13_bitCount_95d88_24 : decode cJ13_bitCount_95d88 24 = .ok (.lload_n 0, 1) := by decide +kernel
theorem dJ13_bitCount_95d88_25 : decode cJ13_bitCount_95d88 25 = .ok (.lload_n 0, 1) := by decide +kernel
theorem dJ13_bitCount_95d88_26 : decode cJ13_bitCount_95d88 26 = .ok (.iconst 4, 1) := by decide +kernel
theorem dJ13_bitCount_95d88_27 : decode cJ13_bitCount_95d88 27 = .ok (.lushr, 1) := by decide +kernel
theorem dJ13_bitCount_95d88_28 : decode cJ13_bitCount_95d88 28 = .ok (.ladd, 1) := by decide +kernel
theorem dJ13_bitCount_95d88_29 : decode cJ13_bitCount_95d88 29 = .ok (.ldc2_w 318, 3) := by decide +kernel
theorem dJ13_bitCount_95d88_32 : decode cJ13_bitCount_95d88 32 = .ok (.land, 1) := by decide +kernel
theorem dJ13_bitCount_95d88_33 : decode cJ13_bitCount_95d88 33 = .ok (.lstore_n 0, 1) := by decide +kernel
theorem dJ13_bitCount_95d88_34 : decode cJ13_bitCount_95d88 34 = .ok (.lload_n 0, 1) := by decide +kernel
theorem dJ13_bitCount_95d88_35 : decode cJ13_bitCount_95d88 35 = .ok (.lload_n 0, 1) := by decide +kernel
theorem dJ13_bitCount_95d88_36 : decode cJ13_bitCount_95d88 36 = .ok (.bipush 8, 2) := by decide +kernel
theorem dJ13_bitCount_95d88_38 : decode cJ13_bitCount_95d88 38 = .ok (.lushr, 1) := by decide +kernel
theorem dJ13_bitCount_95d88_39 : decode cJ13_bitCount_95d88 39 = .ok (.ladd, 1) := by decide +kernel
theorem dJ13_bitCount_95d88_40 : decode cJ13_bitCount_95d88 40 = .ok (.lstore_n 0, 1) := by decide +kernel
theorem dJ13_bitCount_95d88_41 : decode cJ13_bitCount_95d88 41 = .ok (.lload_n 0, 1) := by decide +kernel
theorem dJ13_bitCount_95d88_42 : decode cJ13_bitCount_95d88 42 = .ok (.lload_n 0, 1) := by decide +kernel
theorem dJ13_bitCount_95d88_43 : decode cJ13_bitCount_95d88 43 = .ok (.bipush 16, 2) := by decide +kernel
theorem dJ13_bitCount_95d88_45 : decode cJ13_bitCount_95d88 45 = .ok (.lushr, 1) := by decide +kernel
theorem dJ13_bitCount_95d88_46 : decode cJ13_bitCount_95d88 46 = .ok (.ladd, 1) := by decide +kernel
theorem dJ13_bitCount_95d88_47 : decode cJ13_bitCount_95d88 47 = .ok (.lstore_n 0, 1) := by decide +kernel
theorem dJ13_bitCount_95d88_48 : decode cJ13_bitCount_95d88 48 = .ok (.lload_n 0, 1) := by decide +kernel
theorem dJ13_bitCount_95d88_49 : decode cJ13_bitCount_95d88 49 = .ok (.lload_n 0, 1) := by decide +kernel
theorem dJ13_bitCount_95d88_50 : decode cJ13_bitCount_95d88 50 = .ok (.bipush 32, 2) := by decide +kernel
theorem dJ13_bitCount_95d88_52 : decode cJ13_bitCount_95d88 52 = .ok (.lushr, 1) := by decide +kernel
theorem dJ13_bitCount_95d88_53 : decode cJ13_bitCount_95d88 53 = .ok (.ladd, 1) := by decide +kernel
theorem dJ13_bitCount_95d88_54 : decode cJ13_bitCount_95d88 54 = .ok (.lstore_n 0, 1) := by decide +kernel
theorem dJ13_bitCount_95d88_55 : decode cJ13_bitCount_95d88 55 = .ok (.lload_n 0, 1) := by decide +kernel
theorem dJ13_bitCount_95d88_56 : decode cJ13_bitCount_95d88 56 = .ok (.l2i, 1) := by decide +kernel
theorem dJ13_bitCount_95d88_57 : decode cJ13_bitCount_95d88 57 = .ok (.bipush 127, 2) := by decide +kernel
theorem dJ13_bitCount_95d88_59 : decode cJ13_bitCount_95d88 59 = .ok (.iand, 1) := by decide +kernel
theorem dJ13_bitCount_95d88_60 : decode cJ13_bitCount_95d88 60 = .ok (.ireturn, 1) := by decide +kernel
theorem dJxa1e45_init_da8c8_0 : decode cJxa1e45_init_da8c8 0 = .ok (.aload_n 0, 1) := by decide +kernel
theorem dJxa1e45_init_da8c8_1 : decode cJxa1e45_init_da8c8 1 = .ok (.invokespecial 1, 3) := by decide +kernel
theorem dJxa1e45_init_da8c8_4 : decode cJxa1e45_init_da8c8 4 = .ok (.return_, 1) := by decide +kernel
theorem dJxc12de_init_da8c8_0 : decode cJxc12de_init_da8c8 0 = .ok (.aload_n 0, 1) := by decide +kernel
theorem dJxc12de_init_da8c8_1 : decode cJxc12de_init_da8c8 1 = .ok (.invokespecial 1, 3) := by decide +kernel
theorem dJxc12de_init_da8c8_4 : decode cJxc12de_init_da8c8 4 = .ok (.aload_n 0, 1) := by decide +kernel
theorem dJxc12de_init_da8c8_5 : decode cJxc12de_init_da8c8 5 = .ok (.iconst 0, 1) := by decide +kernel
theorem dJxc12de_init_da8c8_6 : decode cJxc12de_init_da8c8 6 = .ok (.putfield 7, 3) := by decide +kernel
theorem dJxc12de_init_da8c8_9 : decode cJxc12de_init_da8c8 9 = .ok (.return_, 1) := by decide +kernel
theorem dJx4a65c_init_da8c8_0 : decode cJx4a65c_init_da8c8 0 = .ok (.aload_n 0, 1) := by decide +kernel
theorem dJx4a65c_init_da8c8_1 : decode cJx4a65c_init_da8c8 1 = .ok (.invokespecial 1, 3) := by decide +kernel
theorem dJx4a65c_init_da8c8_4 : decode cJx4a65c_init_da8c8 4 = .ok (.aload_n 0, 1) := by decide +kernel
theorem dJx4a65c_init_da8c8_5 : decode cJx4a65c_init_da8c8 5 = .ok (.getstatic 39, 3) := by decide +kernel
theorem dJx4a65c_init_da8c8_8 : decode cJx4a65c_init_da8c8 8 = .ok (.putfield 9, 3) := by decide +kernel
theorem dJx4a65c_init_da8c8_11 : decode cJx4a65c_init_da8c8 11 = .ok (.return_, 1) := by decide +kernel
theorem dJx4a65c_size_8abf5_0 : decode cJx4a65c_size_8abf5 0 = .ok (.aload_n 0, 1) := by decide +kernel
theorem dJx4a65c_size_8abf5_1 : decode cJx4a65c_size_8abf5 1 = .ok (.getfield 48, 3) := by decide +kernel
theorem dJx4a65c_size_8abf5_4 : decode cJx4a65c_size_8abf5 4 = .ok (.ireturn, 1) := by decide +kernel
theorem dJx4a65c_elementData_915e3_0 : decode cJx4a65c_elementData_915e3 0 = .ok (.aload_n 0, 1) := by decide +kernel
theorem dJx4a65c_elementData_915e3_1 : decode cJx4a65c_elementData_915e3 1 = .ok (.getfield 9, 3) := by decide +kernel
theorem dJx4a65c_elementData_915e3_4 : decode cJx4a65c_elementData_915e3 4 = .ok (.iload_n 1, 1) := by decide +kernel
theorem dJx4a65c_elementData_915e3_5 : decode cJx4a65c_elementData_915e3 5 = .ok (.aaload, 1) := by decide +kernel
theorem dJx4a65c_elementData_915e3_6 : decode cJx4a65c_elementData_915e3 6 = .ok (.areturn, 1) := by decide +kernel
theorem dJ3_checkIndex_8e157_0 : decode cJ3_checkIndex_8e157 0 = .ok (.iload_n 0, 1) := by decide +kernel
theorem dJ3_checkIndex_8e157_1 : decode cJ3_checkIndex_8e157 1 = .ok (.ifCond .lt 8, 3) := by decide +kernel
theorem dJ3_checkIndex_8e157_4 : decode cJ3_checkIndex_8e157 4 = .ok (.iload_n 0, 1) := by decide +kernel
theorem dJ3_checkIndex_8e157_5 : decode cJ3_checkIndex_8e157 5 = .ok (.iload_n 1, 1) := by decide +kernel
theorem dJ3_checkIndex_8e157_6 : decode cJ3_checkIndex_8e157 6 = .ok (.if_icmp .lt 10, 3) := by decide +kernel
theorem dJ3_checkIndex_8e157_16 : decode cJ3_checkIndex_8e157 16 = .ok (.iload_n 0, 1) := by decide +kernel
theorem dJ3_checkIndex_8e157_17 : decode cJ3_checkIndex_8e157 17 = .ok (.ireturn, 1) := by decide +kernel
theorem dJ15_checkIndex_7cf53_0 : decode cJ15_checkIndex_7cf53 0 = .ok (.iload_n 0, 1) := by decide +kernel
theorem dJ15_checkIndex_7cf53_1 : decode cJ15_checkIndex_7cf53 1 = .ok (.iload_n 1, 1) := by decide +kernel
theorem dJ15_checkIndex_7cf53_2 : decode cJ15_checkIndex_7cf53 2 = .ok (.aconst_null, 1) := by decide +kernel
theorem dJ15_checkIndex_7cf53_3 : decode cJ15_checkIndex_7cf53 3 = .ok (.invokestatic 105, 3) := by decide +kernel
theorem dJ15_checkIndex_7cf53_6 : decode cJ15_checkIndex_7cf53 6 = .ok (.ireturn, 1) := by decide +kernel
theorem dJx4a65c_get_915e3_0 : decode cJx4a65c_get_915e3 0 = .ok (.iload_n 1, 1) := by decide +kernel
theorem dJx4a65c_get_915e3_1 : decode cJx4a65c_get_915e3 1 = .ok (.aload_n 0, 1) := by decide +kernel
theorem dJx4a65c_get_915e3_2 : decode cJx4a65c_get_915e3 2 = .ok (.getfield 48, 3) := by decide +kernel
theorem dJx4a65c_get_915e3_5 : decode cJx4a65c_get_915e3 5 = .ok (.invokestatic 118, 3) := by decide +kernel
theorem dJx4a65c_get_915e3_8 : decode cJx4a65c_get_915e3 8 = .ok (.pop, 1) := by decide +kernel
theorem dJx4a65c_get_915e3_9 : decode cJx4a65c_get_915e3 9 = .ok (.aload_n 0, 1) := by decide +kernel
theorem dJx4a65c_get_915e3_10 : decode cJx4a65c_get_915e3 10 = .ok (.iload_n 1, 1) := by decide +kernel
theorem dJx4a65c_get_915e3_11 : decode cJx4a65c_get_915e3 11 = .ok (.invokevirtual 123, 3) := by decide +kernel
theorem dJx4a65c_get_915e3_14 : decode cJx4a65c_get_915e3 14 = .ok (.areturn, 1) := by decide +kernel
theorem dJ8_newLength_cabcc_0 : decode cJ8_newLength_cabcc 0 = .ok (.iload_n 0, 1) := by decide +kernel
theorem dJ8_newLength_cabcc_1 : decode cJ8_newLength_cabcc 1 = .ok (.iload_n 1, 1) := by decide +kernel
theorem dJ8_newLength_cabcc_2 : decode cJ8_newLength_cabcc 2 = .ok (.iload_n 2, 1) := by decide +kernel
theorem dJ8_newLength_cabcc_3 : decode cJ8_newLength_cabcc 3 = .ok (.invokestatic 194, 3) := by decide +kernel
theorem dJ8_newLength_cabcc_6 : decode cJ8_newLength_cabcc 6 = .ok (.iadd, 1) := by decide +kernel
theorem dJ8_newLength_cabcc_7 : decode cJ8_newLength_cabcc 7 = .ok (.istore_n 3, 1) := by decide +kernel
theorem dJ8_newLength_cabcc_8 : decode cJ8_newLength_cabcc 8 = .ok (.iconst 0, 1) := by decide +kernel
theorem dJ8_newLength_cabcc_9 : decode cJ8_newLength_cabcc 9 = .ok (.iload_n 3, 1) := by decide +kernel
theorem dJ8_newLength_cabcc_10 : decode cJ8_newLength_cabcc 10 = .ok (.if_icmp .ge 11, 3) := by decide +kernel
theorem dJ8_newLength_cabcc_13 : decode cJ8_newLength_cabcc 13 = .ok (.iload_n 3, 1) := by decide +kernel
theorem dJ8_newLength_cabcc_14 : decode cJ8_newLength_cabcc 14 = .ok (.ldc 200, 2) := by decide +kernel
theorem dJ8_newLength_cabcc_16 : decode cJ8_newLength_cabcc 16 = .ok (.if_icmp .gt 5, 3) := by decide +kernel
theorem dJ8_newLength_cabcc_19 : decode cJ8_newLength_cabcc 19 = .ok (.iload_n 3, 1) := by decide +kernel
theorem dJ8_newLength_cabcc_20 : decode cJ8_newLength_cabcc 20 = .ok (.ireturn, 1) := by decide +kernel
theorem dJ7_copyOf_6403c_0 : decode cJ7_copyOf_6403c 0 = .ok (.aload_n 2, 1) := by decide +kernel
theorem dJ7_copyOf_6403c_1 : decode cJ7_copyOf_6403c 1 = .ok (.ldc 110, 2) := by decide +kernel
theorem dJ7_copyOf_6403c_3 : decode cJ7_copyOf_6403c 3 = .ok (.if_acmp .ne 10, 3) := by decide +kernel
theorem dJ7_copyOf_6403c_6 : decode cJ7_copyOf_6403c 6 = .ok (.iload_n 1, 1) := by decide +kernel
theorem dJ7_copyOf_6403c_7 : decode cJ7_copyOf_6403c 7 = .ok (.anewarray 2, 3) := by decide +kernel
theorem dJ7_copyOf_6403c_10 : decode cJ7_copyOf_6403c 10 = .ok (.goto 14, 3) := by decide +kernel
theorem dJ7_copyOf_6403c_24 : decode cJ7_copyOf_6403c 24 = .ok (.astore_n 3, 1) := by decide +kernel
theorem dJ7_copyOf_6403c_25 : decode cJ7_copyOf_6403c 25 = .ok (.aload_n 0, 1) := by decide +kernel
theorem dJ7_copyOf_6403c_26 : decode cJ7_copyOf_6403c 26 = .ok (.iconst 0, 1) := by decide +kernel
theorem dJ7_copyOf_6403c_27 : decode cJ7_copyOf_6403c 27 = .ok (.aload_n 3, 1) := by decide +kernel
theorem dJ7_copyOf_6403c_28 : decode cJ7_copyOf_6403c 28 = .ok (.iconst 0, 1) := by decide +kernel
theorem dJ7_copyOf_6403c_29 : decode cJ7_copyOf_6403c 29 = .ok (.aload_n 0, 1) := by decide +kernel
theorem dJ7_copyOf_6403c_30 : decode cJ7_copyOf_6403c 30 = .ok (.arraylength, 1) := by decide +kernel
theorem dJ7_copyOf_6403c_31 : decode cJ7_copyOf_6403c 31 = .ok (.iload_n 1, 1) := by decide +kernel
theorem dJ7_copyOf_6403c_32 : decode cJ7_copyOf_6403c 32 = .ok (.invokestatic 304, 3) := by decide +kernel
theorem dJ7_copyOf_6403c_35 : decode cJ7_copyOf_6403c 35 = .ok (.invokestatic 150, 3) := by decide +kernel
theorem dJ7_copyOf_6403c_38 : decode cJ7_copyOf_6403c 38 = .ok (.aload_n 3, 1) := by decide +kernel
theorem dJ7_copyOf_6403c_39 : decode cJ7_copyOf_6403c 39 = .ok (.areturn, 1) := by decide +kernel
theorem dJ7_copyOf_1904c_0 : decode cJ7_copyOf_1904c 0 = .ok (.aload_n 0, 1) := by decide +kernel
theorem dJ7_copyOf_1904c_1 : decode cJ7_copyOf_1904c 1 = .ok (.iload_n 1, 1) := by decide +kernel
theorem dJ7_copyOf_1904c_2 : decode cJ7_copyOf_1904c 2 = .ok (.aload_n 0, 1) := by decide +kernel
theorem dJ7_copyOf_1904c_3 : decode cJ7_copyOf_1904c 3 = .ok (.invokevirtual 86, 3) := by decide +kernel
theorem dJ7_copyOf_1904c_6 : decode cJ7_copyOf_1904c 6 = .ok (.invokestatic 300, 3) := by decide +kernel
theorem dJ7_copyOf_1904c_9 : decode cJ7_copyOf_1904c 9 = .ok (.areturn, 1) := by decide +kernel
theorem dJx4a65c_grow_92f84_0 : decode cJx4a65c_grow_92f84 0 = .ok (.aload_n 0, 1) := by decide +kernel
theorem dJx4a65c_grow_92f84_1 : decode cJx4a65c_grow_92f84 1 = .ok (.getfield 9, 3) := by decide +kernel
theorem dJx4a65c_grow_92f84_4 : decode cJx4a65c_grow_92f84 4 = .ok (.arraylength, 1) := by decide +kernel
theorem dJx4a65c_grow_92f84_5 : decode cJx4a65c_grow_92f84 5 = .ok (.istore_n 2, 1) := by decide +kernel
theorem dJx4a65c_grow_92f84_6 : decode cJx4a65c_grow_92f84 6 = .ok (.iload_n 2, 1) := by decide +kernel
theorem dJx4a65c_grow_92f84_7 : decode cJx4a65c_grow_92f84 7 = .ok (.ifCond .gt 13, 3) := by decide +kernel
theorem dJx4a65c_grow_92f84_10 : decode cJx4a65c_grow_92f84 10 = .ok (.aload_n 0, 1) := by decide +kernel
theorem dJx4a65c_grow_92f84_11 : decode cJx4a65c_grow_92f84 11 = .ok (.getfield 9, 3) := by decide +kernel
theorem dJx4a65c_grow_92f84_14 : decode cJx4a65c_grow_92f84 14 = .ok (.getstatic 39, 3) := by decide +kernel
theorem dJx4a65c_grow_92f84_17 : decode cJx4a65c_grow_92f84 17 = .ok (.if_acmp .eq 28, 3) := by decide +kernel
theorem dJx4a65c_grow_92f84_20 : decode cJx4a65c_grow_92f84 20 = .ok (.iload_n 2, 1) := by decide +kernel
theorem dJx4a65c_grow_92f84_21 : decode cJx4a65c_grow_92f84 21 = .ok (.iload_n 1, 1) := by decide +kernel
theorem dJx4a65c_grow_92f84_22 : decode cJx4a65c_grow_92f84 22 = .ok (.iload_n 2, 1) := by decide +kernel
theorem dJx4a65c_grow_92f84_23 : decode cJx4a65c_grow_92f84 23 = .ok (.isub, 1) := by decide +kernel
theorem dJx4a65c_grow_92f84_24 : decode cJx4a65c_grow_92f84 24 = .ok (.iload_n 2, 1) := by decide +kernel
theorem dJx4a65c_grow_92f84_25 : decode cJx4a65c_grow_92f84 25 = .ok (.iconst 1, 1) := by decide +kernel
theorem dJx4a65c_grow_92f84_26 : decode cJx4a65c_grow_92f84 26 = .ok (.ishr, 1) := by decide +kernel
theorem dJx4a65c_grow_92f84_27 : decode cJx4a65c_grow_92f84 27 = .ok (.invokestatic 73, 3) := by decide +kernel
theorem dJx4a65c_grow_92f84_30 : decode cJx4a65c_grow_92f84 30 = .ok (.istore_n 3, 1) := by decide +kernel
theorem dJx4a65c_grow_92f84_31 : decode cJx4a65c_grow_92f84 31 = .ok (.aload_n 0, 1) := by decide +kernel
theorem dJx4a65c_grow_92f84_32 : decode cJx4a65c_grow_92f84 32 = .ok (.aload_n 0, 1) := by decide +kernel
theorem dJx4a65c_grow_92f84_33 : decode cJx4a65c_grow_92f84 33 = .ok (.getfield 9, 3) := by decide +kernel
theorem dJx4a65c_grow_92f84_36 : decode cJx4a65c_grow_92f84 36 = .ok (.iload_n 3, 1) := by decide +kernel
theorem dJx4a65c_grow_92f84_37 : decode cJx4a65c_grow_92f84 37 = .ok (.invokestatic 66, 3) := by decide +kernel
theorem dJx4a65c_grow_92f84_40 : decode cJx4a65c_grow_92f84 40 = .ok (.dup_x1, 1) := by decide +kernel
theorem dJx4a65c_grow_92f84_41 : decode cJx4a65c_grow_92f84 41 = .ok (.putfield 9, 3) := by decide +kernel
theorem dJx4a65c_grow_92f84_44 : decode cJx4a65c_grow_92f84 44 = .ok (.areturn, 1) := by decide +kernel
theorem dJx4a65c_grow_92f84_45 : decode cJx4a65c_grow_92f84 45 = .ok (.aload_n 0, 1) := by decide +kernel
theorem dJx4a65c_grow_92f84_46 : decode cJx4a65c_grow_92f84 46 = .ok (.bipush 10, 2) := by decide +kernel
theorem dJx4a65c_grow_92f84_48 : decode cJx4a65c_grow_92f84 48 = .ok (.iload_n 1, 1) := by decide +kernel
theorem dJx4a65c_grow_92f84_49 : decode cJx4a65c_grow_92f84 49 = .ok (.invokestatic 79, 3) := by decide +kernel
theorem dJx4a65c_grow_92f84_52 : decode cJx4a65c_grow_92f84 52 = .ok (.anewarray 7, 3) := by decide +kernel
theorem dJx4a65c_grow_92f84_55 : decode cJx4a65c_grow_92f84 55 = .ok (.dup_x1, 1) := by decide +kernel
theorem dJx4a65c_grow_92f84_56 : decode cJx4a65c_grow_92f84 56 = .ok (.putfield 9, 3) := by decide +kernel
theorem dJx4a65c_grow_92f84_59 : decode cJx4a65c_grow_92f84 59 = .ok (.areturn, 1) := by decide +kernel
theorem dJx4a65c_grow_d5877_0 : decode cJx4a65c_grow_d5877 0 = .ok (.aload_n 0, 1) := by decide +kernel
theorem dJx4a65c_grow_d5877_1 : decode cJx4a65c_grow_d5877 1 = .ok (.aload_n 0, 1) := by decide +kernel
theorem dJx4a65c_grow_d5877_2 : decode cJx4a65c_grow_d5877 2 = .ok (.getfield 48, 3) := by decide +kernel
theorem dJx4a65c_grow_d5877_5 : decode cJx4a65c_grow_d5877 5 = .ok (.iconst 1, 1) := by decide +kernel
theorem dJx4a65c_grow_d5877_6 : decode cJx4a65c_grow_d5877 6 = .ok (.iadd, 1) := by decide +kernel
theorem dJx4a65c_grow_d5877_7 : decode cJx4a65c_grow_d5877 7 = .ok (.invokevirtual 69, 3) := by decide +kernel
theorem dJx4a65c_grow_d5877_10 : decode cJx4a65c_grow_d5877 10 = .ok (.areturn, 1) := by decide +kernel
theorem dJx4a65c_add_72be8_0 : decode cJx4a65c_add_72be8 0 = .ok (.iload_n 3, 1) := by decide +kernel
theorem dJx4a65c_add_72be8_1 : decode cJx4a65c_add_72be8 1 = .ok (.aload_n 2, 1) := by decide +kernel
theorem dJx4a65c_add_72be8_2 : decode cJx4a65c_add_72be8 2 = .ok (.arraylength, 1) := by decide +kernel
theorem dJx4a65c_add_72be8_3 : decode cJx4a65c_add_72be8 3 = .ok (.if_icmp .ne 8, 3) := by decide +kernel
theorem dJx4a65c_add_72be8_6 : decode cJx4a65c_add_72be8 6 = .ok (.aload_n 0, 1) := by decide +kernel
theorem dJx4a65c_add_72be8_7 : decode cJx4a65c_add_72be8 7 = .ok (.invokevirtual 129, 3) := by decide +kernel
theorem dJx4a65c_add_72be8_10 : decode cJx4a65c_add_72be8 10 = .ok (.astore_n 2, 1) := by decide +kernel
theorem dJx4a65c_add_72be8_11 : decode cJx4a65c_add_72be8 11 = .ok (.aload_n 2, 1) := by decide +kernel
theorem dJx4a65c_add_72be8_12 : decode cJx4a65c_add_72be8 12 = .ok (.iload_n 3, 1) := by decide +kernel
theorem dJx4a65c_add_72be8_13 : decode cJx4a65c_add_72be8 13 = .ok (.aload_n 1, 1) := by decide +kernel
theorem dJx4a65c_add_72be8_14 : decode cJx4a65c_add_72be8 14 = .ok (.aastore, 1) := by decide +kernel
theorem dJx4a65c_add_72be8_15 : decode cJx4a65c_add_72be8 15 = .ok (.aload_n 0, 1) := by decide +kernel
theorem dJx4a65c_add_72be8_16 : decode cJx4a65c_add_72be8 16 = .ok (.iload_n 3, 1) := by decide +kernel
theorem dJx4a65c_add_72be8_17 : decode cJx4a65c_add_72be8 17 = .ok (.iconst 1, 1) := by decide +kernel
theorem dJx4a65c_add_72be8_18 : decode cJx4a65c_add_72be8 18 = .ok (.iadd, 1) := by decide +kernel
theorem dJx4a65c_add_72be8_19 : decode cJx4a65c_add_72be8 19 = .ok (.putfield 48, 3) := by decide +kernel
theorem dJx4a65c_add_72be8_22 : decode cJx4a65c_add_72be8 22 = .ok (.return_, 1) := by decide +kernel
theorem dJx4a65c_add_9ea2d_0 : decode cJx4a65c_add_9ea2d 0 = .ok (.aload_n 0, 1) := by decide +kernel
theorem dJx4a65c_add_9ea2d_1 : decode cJx4a65c_add_9ea2d 1 = .ok (.dup, 1) := by decide +kernel
theorem dJx4a65c_add_9ea2d_2 : decode cJx4a65c_add_9ea2d 2 = .ok (.getfield 63, 3) := by decide +kernel
theorem dJx4a65c_add_9ea2d_5 : decode cJx4a65c_add_9ea2d 5 = .ok (.iconst 1, 1) := by decide +kernel
theorem dJx4a65c_add_9ea2d_6 : decode cJx4a65c_add_9ea2d 6 = .ok (.iadd, 1) := by decide +kernel
theorem dJx4a65c_add_9ea2d_7 : decode cJx4a65c_add_9ea2d 7 = .ok (.putfield 63, 3) := by decide +kernel
theorem dJx4a65c_add_9ea2d_10 : decode cJx4a65c_add_9ea2d 10 = .ok (.aload_n 0, 1) := by decide +kernel
theorem dJx4a65c_add_9ea2d_11 : decode cJx4a65c_add_9ea2d 11 = .ok (.aload_n 1, 1) := by decide +kernel
theorem dJx4a65c_add_9ea2d_12 : decode cJx4a65c_add_9ea2d 12 = .ok (.aload_n 0, 1) := by decide +kernel
theorem dJx4a65c_add_9ea2d_13 : decode cJx4a65c_add_9ea2d 13 = .ok (.getfield 9, 3) := by decide +kernel
theorem dJx4a65c_add_9ea2d_16 : decode cJx4a65c_add_9ea2d 16 = .ok (.aload_n 0, 1) := by decide +kernel
theorem dJx4a65c_add_9ea2d_17 : decode cJx4a65c_add_9ea2d 17 = .ok (.getfield 48, 3) := by decide +kernel
theorem dJx4a65c_add_9ea2d_20 : decode cJx4a65c_add_9ea2d 20 = .ok (.invokevirtual 131, 3) := by decide +kernel
theorem dJx4a65c_add_9ea2d_23 : decode cJx4a65c_add_9ea2d 23 = .ok (.iconst 1, 1) := by decide +kernel
theorem dJx4a65c_add_9ea2d_24 : decode cJx4a65c_add_9ea2d 24 = .ok (.ireturn, 1) := by decide +kernel
def F_J13_bitCount_95d88 (a0 : Int64) (h0 : PM) : Option (Int32 × PM) := lt_ (a0 - (((Int64.toUInt64 a0 >>> ((Int32.toInt64 1).toUInt64 &&& Int64.toUInt64 63)).toInt64) &&& 6148914691236517205)) fun x1 => lt_ ((x1 &&& 3689348814741910323) + (((Int64.toUInt64 x1 >>> ((Int32.toInt64 2).toUInt64 &&& Int64.toUInt64 63)).toInt64) &&& 3689348814741910323)) fun x2 => lt_ ((x2 + ((Int64.toUInt64 x2 >>> ((Int32.toInt64 4).toUInt64 &&& Int64.toUInt64 63)).toInt64)) &&& 1085102592571150095) fun x3 => lt_ (x3 + ((Int64.toUInt64 x3 >>> ((Int32.toInt64 8).toUInt64 &&& Int64.toUInt64 63)).toInt64)) fun x4 => lt_ (x4 + ((Int64.toUInt64 x4 >>> ((Int32.toInt64 16).toUInt64 &&& Int64.toUInt64 63)).toInt64)) fun x5 => lt_ (x5 + ((Int64.toUInt64 x5 >>> ((Int32.toInt64 32).toUInt64 &&& Int64.toUInt64 63)).toInt64)) fun x6 => some ((Int64.toInt32 x6) &&& 127, h0)
set_option maxRecDepth 100000 in
set_option maxHeartbeats 4000000 in
theorem S_J13_bitCount_95d88 {a0 : Int64} {h0 : PM} (r : Int32) (h' : PM) (hF : F_J13_bitCount_95d88 a0 h0 = some (r, h')) : CN yJ13_bitCount_95d88 cJ13_bitCount_95d88 2 (some .int) 0 0 0 [.long a0] h0 (some (.int r)) h' := by
  obtain ⟨X, eX⟩ : ∃ X, X = (r, h') := ⟨_, rfl⟩
  rw [← eX] at hF
  have e1 : r = X.1 := by rw [eX]
  have e2 : h' = X.2 := by rw [eX]
  rw [e1, e2]
  clear eX e1 e2
  unfold F_J13_bitCount_95d88 at hF
  refine CN_of (by decide) (fun ρ => Nat.le_of_ble_eq_true rfl) rfl ?_
  intro p l e s m args below meth c D cy base ρ hT C V hr hnm
  refine r_lload_n C dJ13_bitCount_95d88_0 rfl 0 rfl ?_
  refine r_lload_n C dJ13_bitCount_95d88_1 rfl 0 rfl ?_
  refine r_iconst (v := 1) C dJ13_bitCount_95d88_2 (by decide) ?_
  refine r_lushr C dJ13_bitCount_95d88_3 ?_
  refine r_ldc2 C dJ13_bitCount_95d88_4 cl_J13_314 ?_
  refine r_land C dJ13_bitCount_95d88_7 ?_
  refine r_lsub C dJ13_bitCount_95d88_8 ?_
  refine k_ltl hF (fun x1 hF => ?_)
  refine r_lstore_n C dJ13_bitCount_95d88_9 rfl (by decide) rfl ?_
  refine r_lload_n C dJ13_bitCount_95d88_10 rfl 0 rfl ?_
  refine r_ldc2 C dJ13_bitCount_95d88_11 cl_J13_316 ?_
  refine r_land C dJ13_bitCount_95d88_14 ?_
  refine r_lload_n C dJ13_bitCount_95d88_15 rfl 0 rfl ?_
  refine r_iconst (v := 2) C dJ13_bitCount_95d88_16 (by decide) ?_
  refine r_lushr C dJ13_bitCount_95d88_17 ?_
  refine r_ldc2 C dJ13_bitCount_95d88_18 cl_J13_316 ?_
  refine r_land C dJ13_bitCount_95d88_21 ?_
  refine r_ladd C dJ13_bitCount_95d88_22 ?_
  refine k_ltl hF (fun x2 hF => ?_)
  refine r_lstore_n C dJ13_bitCount_95d88_23 rfl (by decide) rfl ?_
  refine r_lload_n C dJ13_bitCount_95d88_24 rfl 0 rfl ?_
  refine r_lload_n C dJ13_bitCount_95d88_25 rfl 0 rfl ?_
  refine r_iconst (v := 4) C dJ13_bitCount_95d88_26 (by decide) ?_
  refine r_lushr C dJ13_bitCount_95d88_27 ?_
  refine r_ladd C dJ13_bitCount_95d88_28 ?_
  refine r_ldc2 C dJ13_bitCount_95d88_29 cl_J13_318 ?_
  refine r_land C dJ13_bitCount_95d88_32 ?_
  refine k_ltl hF (fun x3 hF => ?_)
  refine r_lstore_n C dJ13_bitCount_95d88_33 rfl (by decide) rfl ?_
  refine r_lload_n C dJ13_bitCount_95d88_34 rfl 0 rfl ?_
  refine r_lload_n C dJ13_bitCount_95d88_35 rfl 0 rfl ?_
  refine r_bipush (v := 8) C dJ13_bitCount_95d88_36 (by decide) ?_
  refine r_lushr C dJ13_bitCount_95d88_38 ?_
  refine r_ladd C dJ13_bitCount_95d88_39 ?_
  refine k_ltl hF (fun x4 hF => ?_)
  refine r_lstore_n C dJ13_bitCount_95d88_40 rfl (by decide) rfl ?_
  refine r_lload_n C dJ13_bitCount_95d88_41 rfl 0 rfl ?_
  refine r_lload_n C dJ13_bitCount_95d88_42 rfl 0 rfl ?_
  refine r_bipush (v := 16) C dJ13_bitCount_95d88_43 (by decide) ?_
  refine r_lushr C dJ13_bitCount_95d88_45 ?_
  refine r_ladd C dJ13_bitCount_95d88_46 ?_
  refine k_ltl hF (fun x5 hF => ?_)
  refine r_lstore_n C dJ13_bitCount_95d88_47 rfl (by decide) rfl ?_
  refine r_lload_n C dJ13_bitCount_95d88_48 rfl 0 rfl ?_
  refine r_lload_n C dJ13_bitCount_95d88_49 rfl 0 rfl ?_
  refine r_bipush (v := 32) C dJ13_bitCount_95d88_50 (by decide) ?_
  refine r_lushr C dJ13_bitCount_95d88_52 ?_
  refine r_ladd C dJ13_bitCount_95d88_53 ?_
  refine k_ltl hF (fun x6 hF => ?_)
  refine r_lstore_n C dJ13_bitCount_95d88_54 rfl (by decide) rfl ?_
  refine r_lload_n C dJ13_bitCount_95d88_55 rfl 0 rfl ?_
  refine r_l2i C dJ13_bitCount_95d88_56 ?_
  refine r_bipush (v := 127) C dJ13_bitCount_95d88_57 (by decide) ?_
  refine r_iand C dJ13_bitCount_95d88_59 ?_
  exact k_iret C dJ13_bitCount_95d88_60 hr (by decide) (by decide) hF
def F_Jxa1e45_init_da8c8 (a0 : Nat) (h0 : PM) : Option (Unit × PM) := some ((), h0)
set_option maxRecDepth 100000 in
set_option maxHeartbeats 4000000 in
theorem S_Jxa1e45_init_da8c8 {a0 : Nat} {h0 : PM} (r : Unit) (h' : PM) (hF : F_Jxa1e45_init_da8c8 a0 h0 = some (r, h')) : CN yJxa1e45_init_da8c8 cJxa1e45_init_da8c8 1 none 0 0 1 [.ref a0] h0 none h' := by
  obtain ⟨X, eX⟩ : ∃ X, X = (r, h') := ⟨_, rfl⟩
  rw [← eX] at hF
  have e1 : r = X.1 := by rw [eX]
  have e2 : h' = X.2 := by rw [eX]
  rw [e2]
  clear eX e1 e2
  unfold F_Jxa1e45_init_da8c8 at hF
  refine CN_of (by decide) (fun ρ => Nat.le_of_ble_eq_true rfl) rfl ?_
  intro p l e s m args below meth c D cy base ρ hT C V hr hnm
  refine r_aload_n C dJxa1e45_init_da8c8_0 rfl 0 rfl ?_
  refine r_objInit C dJxa1e45_init_da8c8_1 ml_Jxa1e45_1 im_obj cd_obj (by decide) (Nat.le_of_ble_eq_true rfl) ?_
  exact k_vret C dJxa1e45_init_da8c8_4 hr (by decide) (by decide) hF
def F_Jxc12de_init_da8c8 (a0 : Nat) (h0 : PM) : Option (Unit × PM) := cl (F_Jxa1e45_init_da8c8 a0 h0) fun r1 h2 => pI h2 a0 0 0 0 fun h4 => some ((), h4)
set_option maxRecDepth 100000 in
set_option maxHeartbeats 4000000 in
theorem S_Jxc12de_init_da8c8 {a0 : Nat} {h0 : PM} (r : Unit) (h' : PM) (hF : F_Jxc12de_init_da8c8 a0 h0 = some (r, h')) : CN yJxc12de_init_da8c8 cJxc12de_init_da8c8 1 none 0 0 2 [.ref a0] h0 none h' := by
  obtain ⟨X, eX⟩ : ∃ X, X = (r, h') := ⟨_, rfl⟩
  rw [← eX] at hF
  have e1 : r = X.1 := by rw [eX]
  have e2 : h' = X.2 := by rw [eX]
  rw [e2]
  clear eX e1 e2
  unfold F_Jxc12de_init_da8c8 at hF
  refine CN_of (by decide) (fun ρ => Nat.le_of_ble_eq_true rfl) rfl ?_
  intro p l e s m args below meth c D cy base ρ hT C V hr hnm
  refine r_aload_n C dJxc12de_init_da8c8_0 rfl 0 rfl ?_
  obtain ⟨r1, h2, hc3, hF⟩ := cl_some hF
  refine r_callI (As := []) C dJxc12de_init_da8c8_1 V hT cal_Jxa1e45_init_da8c8 ml_Jxc12de_1 im_Jxa1e45_init_da8c8 rfl (by decide) rfl rfl (Nat.le_of_ble_eq_true rfl) (by decide) (by decide) (S_Jxa1e45_init_da8c8 _ _ hc3) ?_
  refine r_aload_n C dJxc12de_init_da8c8_4 rfl 0 rfl ?_
  refine r_iconst (v := 0) C dJxc12de_init_da8c8_5 (by decide) ?_
  refine k_pI C dJxc12de_init_da8c8_6 fd_Jxc12de_7 (fun z => by cases z) (by decide) hF (fun h4 hF => ?_)
  exact k_vret C dJxc12de_init_da8c8_9 hr (by decide) (by decide) hF
def F_Jx4a65c_init_da8c8 (a0 : Nat) (h0 : PM) : Option (Unit × PM) := cl (F_Jxc12de_init_da8c8 a0 h0) fun r1 h2 => pR h2 a0 0 1 2 fun h4 => some ((), h4)
set_option maxRecDepth 100000 in
set_option maxHeartbeats 4000000 in
theorem S_Jx4a65c_init_da8c8 {a0 : Nat} {h0 : PM} (r : Unit) (h' : PM) (hF : F_Jx4a65c_init_da8c8 a0 h0 = some (r, h')) : CN yJx4a65c_init_da8c8 cJx4a65c_init_da8c8 1 none 0 0 3 [.ref a0] h0 none h' := by
  obtain ⟨X, eX⟩ : ∃ X, X = (r, h') := ⟨_, rfl⟩
  rw [← eX] at hF
  have e1 : r = X.1 := by rw [eX]
  have e2 : h' = X.2 := by rw [eX]
  rw [e2]
  clear eX e1 e2
  unfold F_Jx4a65c_init_da8c8 at hF
  refine CN_of (by decide) (fun ρ => Nat.le_of_ble_eq_true rfl) rfl ?_
  intro p l e s m args below meth c D cy base ρ hT C V hr hnm
  refine r_aload_n C dJx4a65c_init_da8c8_0 rfl 0 rfl ?_
  obtain ⟨r1, h2, hc3, hF⟩ := cl_some hF
  refine r_callI (As := []) C dJx4a65c_init_da8c8_1 V hT cal_Jxc12de_init_da8c8 ml_Jx4a65c_1 im_Jxc12de_init_da8c8 rfl (by decide) rfl rfl (Nat.le_of_ble_eq_true rfl) (by decide) (by decide) (S_Jxc12de_init_da8c8 _ _ hc3) ?_
  refine r_aload_n C dJx4a65c_init_da8c8_4 rfl 0 rfl ?_
  refine r_gsD C V dJx4a65c_init_da8c8_5 gs_Jx4a65c_39 ?_
  refine k_pR C dJx4a65c_init_da8c8_8 fd_Jx4a65c_9 (fun z => by cases z) (by decide) hF (fun h4 hF => ?_)
  exact k_vret C dJx4a65c_init_da8c8_11 hr (by decide) (by decide) hF
def F_Jx4a65c_size_8abf5 (a0 : Nat) (h0 : PM) : Option (Int32 × PM) := gI h0 a0 0 2 fun x1 => some (x1, h0)
set_option maxRecDepth 100000 in
set_option maxHeartbeats 4000000 in
theorem S_Jx4a65c_size_8abf5 {a0 : Nat} {h0 : PM} (r : Int32) (h' : PM) (hF : F_Jx4a65c_size_8abf5 a0 h0 = some (r, h')) : CN yJx4a65c_size_8abf5 cJx4a65c_size_8abf5 1 (some .int) 0 0 0 [.ref a0] h0 (some (.int r)) h' := by
  obtain ⟨X, eX⟩ : ∃ X, X = (r, h') := ⟨_, rfl⟩
  rw [← eX] at hF
  have e1 : r = X.1 := by rw [eX]
  have e2 : h' = X.2 := by rw [eX]
  rw [e1, e2]
  clear eX e1 e2
  unfold F_Jx4a65c_size_8abf5 at hF
  refine CN_of (by decide) (fun ρ => Nat.le_of_ble_eq_true rfl) rfl ?_
  intro p l e s m args below meth c D cy base ρ hT C V hr hnm
  refine r_aload_n C dJx4a65c_size_8abf5_0 rfl 0 rfl ?_
  refine k_gI C dJx4a65c_size_8abf5_1 fd_Jx4a65c_48 (by decide) hF (fun x1 hF => ?_)
  exact k_iret C dJx4a65c_size_8abf5_4 hr (by decide) (by decide) hF
def F_Jx4a65c_elementData_915e3 (a0 : Nat) (a1 : Int32) (h0 : PM) : Option (Nat × PM) := gR h0 a0 0 1 fun x1 => aR h0 x1 a1 fun x2 => some (x2, h0)
set_option maxRecDepth 100000 in
set_option maxHeartbeats 4000000 in
theorem S_Jx4a65c_elementData_915e3 {a0 : Nat} {a1 : Int32} {h0 : PM} (r : Nat) (h' : PM) (hF : F_Jx4a65c_elementData_915e3 a0 a1 h0 = some (r, h')) : CN yJx4a65c_elementData_915e3 cJx4a65c_elementData_915e3 2 (some (.object "java/lang/Object")) 0 0 0 [.ref a0, .int a1] h0 (some (.ref r)) h' := by
  obtain ⟨X, eX⟩ : ∃ X, X = (r, h') := ⟨_, rfl⟩
  rw [← eX] at hF
  have e1 : r = X.1 := by rw [eX]
  have e2 : h' = X.2 := by rw [eX]
  rw [e1, e2]
  clear eX e1 e2
  unfold F_Jx4a65c_elementData_915e3 at hF
  refine CN_of (by decide) (fun ρ => Nat.le_of_ble_eq_true rfl) rfl ?_
  intro p l e s m args below meth c D cy base ρ hT C V hr hnm
  refine r_aload_n C dJx4a65c_elementData_915e3_0 rfl 0 rfl ?_
  refine k_gR C dJx4a65c_elementData_915e3_1 fd_Jx4a65c_9 (by decide) hF (fun x1 hF => ?_)
  refine r_iload_n C dJx4a65c_elementData_915e3_4 rfl 1 rfl ?_
  refine k_aR C dJx4a65c_elementData_915e3_5 hF (fun x2 hF => ?_)
  exact k_aret C dJx4a65c_elementData_915e3_6 hr (by first | exact Or.inl ⟨_, rfl⟩ | exact Or.inr ⟨_, rfl⟩) (by decide) (by decide) hF
def F_J3_checkIndex_8e157 (a0 : Int32) (a1 : Int32) (h0 : PM) : Option (Int32 × PM) := jn (fun  (h1 : PM) => none) fun k9 => if a0 < 0 then (k9 h0) else (if a0 < a1 then (some (a0, h0)) else (k9 h0))
set_option maxRecDepth 100000 in
set_option maxHeartbeats 4000000 in
theorem S_J3_checkIndex_8e157 {a0 : Int32} {a1 : Int32} {h0 : PM} (r : Int32) (h' : PM) (hF : F_J3_checkIndex_8e157 a0 a1 h0 = some (r, h')) : CN yJ3_checkIndex_8e157 cJ3_checkIndex_8e157 3 (some .int) 0 0 0 [.int a0, .int a1, .null] h0 (some (.int r)) h' := by
  obtain ⟨X, eX⟩ : ∃ X, X = (r, h') := ⟨_, rfl⟩
  rw [← eX] at hF
  have e1 : r = X.1 := by rw [eX]
  have e2 : h' = X.2 := by rw [eX]
  rw [e1, e2]
  clear eX e1 e2
  unfold F_J3_checkIndex_8e157 at hF
  refine CN_of (by decide) (fun ρ => Nat.le_of_ble_eq_true rfl) rfl ?_
  intro p l e s m args below meth c D cy base ρ hT C V hr hnm
  refine r_iload_n C dJ3_checkIndex_8e157_0 rfl 0 rfl ?_
  obtain ⟨k9, ek9, hF⟩ := jn_some hF
  have Jk9 : ∀  (h1 : PM), k9 h1 = some X → WP p l e (rmN 0 0 0) s m args below meth c D cy base ρ h0 0 0 3 (MQ below (QR D cy base ρ h0 (some (.int X.1)) X.2) args s 0 0 (fun q => base ≤ q)) 9 [(2, .null)] [] h1 := by
    intro h1 hF
    rw [ek9] at hF
    cases hF
  refine r_if_lt (tgt := 9) C dJ3_checkIndex_8e157_1 (by decide) hF (fun hF => ?_) (fun hF => ?_)
  · exact r_sub [2] rfl (Jk9  _ hF)
  · refine r_iload_n C dJ3_checkIndex_8e157_4 rfl 0 rfl ?_
    refine r_iload_n C dJ3_checkIndex_8e157_5 rfl 1 rfl ?_
    refine r_icmp_lt (tgt := 16) C dJ3_checkIndex_8e157_6 (by decide) hF (fun hF => ?_) (fun hF => ?_)
    · refine r_iload_n C dJ3_checkIndex_8e157_16 rfl 0 rfl ?_
      exact k_iret C dJ3_checkIndex_8e157_17 hr (by decide) (by decide) hF
    · exact r_sub [2] rfl (Jk9  _ hF)
def F_J15_checkIndex_7cf53 (a0 : Int32) (a1 : Int32) (h0 : PM) : Option (Int32 × PM) := cl (F_J3_checkIndex_8e157 a0 a1 h0) fun r1 h2 => some (r1, h2)
set_option maxRecDepth 100000 in
set_option maxHeartbeats 4000000 in
theorem S_J15_checkIndex_7cf53 {a0 : Int32} {a1 : Int32} {h0 : PM} (r : Int32) (h' : PM) (hF : F_J15_checkIndex_7cf53 a0 a1 h0 = some (r, h')) : CN yJ15_checkIndex_7cf53 cJ15_checkIndex_7cf53 2 (some .int) 0 0 1 [.int a0, .int a1] h0 (some (.int r)) h' := by
  obtain ⟨X, eX⟩ : ∃ X, X = (r, h') := ⟨_, rfl⟩
  rw [← eX] at hF
  have e1 : r = X.1 := by rw [eX]
  have e2 : h' = X.2 := by rw [eX]
  rw [e1, e2]
  clear eX e1 e2
  unfold F_J15_checkIndex_7cf53 at hF
  refine CN_of (by decide) (fun ρ => Nat.le_of_ble_eq_true rfl) rfl ?_
  intro p l e s m args below meth c D cy base ρ hT C V hr hnm
  refine r_iload_n C dJ15_checkIndex_7cf53_0 rfl 0 rfl ?_
  refine r_iload_n C dJ15_checkIndex_7cf53_1 rfl 1 rfl ?_
  refine r_null C dJ15_checkIndex_7cf53_2 ?_
  obtain ⟨r1, h2, hc3, hF⟩ := cl_some hF
  refine r_callS (As := [.int a0, .int a1, .null]) C dJ15_checkIndex_7cf53_3 V hT cal_J3_checkIndex_8e157 ml_J15_105 sm_J3_checkIndex_8e157 (by decide) rfl rfl (Nat.le_of_ble_eq_true rfl) (by decide) (by decide) (S_J3_checkIndex_8e157 _ _ hc3) ?_
  exact k_iret C dJ15_checkIndex_7cf53_6 hr (by decide) (by decide) hF
def F_Jx4a65c_get_915e3 (a0 : Nat) (a1 : Int32) (h0 : PM) : Option (Nat × PM) := gI h0 a0 0 2 fun x1 => cl (F_J15_checkIndex_7cf53 a1 x1 h0) fun r2 h3 => tst h3 a0 0 (cl (F_Jx4a65c_elementData_915e3 a0 a1 h3) fun r5 h6 => some (r5, h6))
set_option maxRecDepth 100000 in
set_option maxHeartbeats 4000000 in
theorem S_Jx4a65c_get_915e3 {a0 : Nat} {a1 : Int32} {h0 : PM} (r : Nat) (h' : PM) (hF : F_Jx4a65c_get_915e3 a0 a1 h0 = some (r, h')) : CN yJx4a65c_get_915e3 cJx4a65c_get_915e3 2 (some (.object "java/lang/Object")) 0 0 2 [.ref a0, .int a1] h0 (some (.ref r)) h' := by
  obtain ⟨X, eX⟩ : ∃ X, X = (r, h') := ⟨_, rfl⟩
  rw [← eX] at hF
  have e1 : r = X.1 := by rw [eX]
  have e2 : h' = X.2 := by rw [eX]
  rw [e1, e2]
  clear eX e1 e2
  unfold F_Jx4a65c_get_915e3 at hF
  refine CN_of (by decide) (fun ρ => Nat.le_of_ble_eq_true rfl) rfl ?_
  intro p l e s m args below meth c D cy base ρ hT C V hr hnm
  refine r_iload_n C dJx4a65c_get_915e3_0 rfl 1 rfl ?_
  refine r_aload_n C dJx4a65c_get_915e3_1 rfl 0 rfl ?_
  refine k_gI C dJx4a65c_get_915e3_2 fd_Jx4a65c_48 (by decide) hF (fun x1 hF => ?_)
  obtain ⟨r2, h3, hc4, hF⟩ := cl_some hF
  refine r_callS (As := [.int a1, .int x1]) C dJx4a65c_get_915e3_5 V hT cal_J15_checkIndex_7cf53 ml_Jx4a65c_118 sm_J15_checkIndex_7cf53 (by decide) rfl rfl (Nat.le_of_ble_eq_true rfl) (by decide) (by decide) (S_J15_checkIndex_7cf53 _ _ hc4) ?_
  refine r_pop C dJx4a65c_get_915e3_8 rfl ?_
  refine r_aload_n C dJx4a65c_get_915e3_9 rfl 0 rfl ?_
  refine r_iload_n C dJx4a65c_get_915e3_10 rfl 1 rfl ?_
  obtain ⟨ht, hF⟩ := tst_some hF
  obtain ⟨r5, h6, hc7, hF⟩ := cl_some hF
  refine r_callV (As := [.int a1]) C dJx4a65c_get_915e3_11 V hT cal_Jx4a65c_elementData_915e3 cls_0 ml_Jx4a65c_123 im_Jx4a65c_elementData_915e3 se_Jx4a65c_elementData_915e3 ht (by decide) rfl rfl (Nat.le_of_ble_eq_true rfl) (by decide) (by decide) (S_Jx4a65c_elementData_915e3 _ _ hc7) ?_
  exact k_aret C dJx4a65c_get_915e3_14 hr (by first | exact Or.inl ⟨_, rfl⟩ | exact Or.inr ⟨_, rfl⟩) (by decide) (by decide) hF
def F_J8_newLength_cabcc (a0 : Int32) (a1 : Int32) (a2 : Int32) (h0 : PM) : Option (Int32 × PM) := lt_ (a0 + (mx a1 a2)) fun x1 => jn (fun  (h2 : PM) => none) fun k21 => if x1 ≤ 0 then (k21 h0) else (if 2147483639 < x1 then (k21 h0) else (some (x1, h0)))
set_option maxRecDepth 100000 in
set_option maxHeartbeats 4000000 in
theorem S_J8_newLength_cabcc {a0 : Int32} {a1 : Int32} {a2 : Int32} {h0 : PM} (r : Int32) (h' : PM) (hF : F_J8_newLength_cabcc a0 a1 a2 h0 = some (r, h')) : CN yJ8_newLength_cabcc cJ8_newLength_cabcc 4 (some .int) 0 0 1 [.int a0, .int a1, .int a2] h0 (some (.int r)) h' := by
  obtain ⟨X, eX⟩ : ∃ X, X = (r, h') := ⟨_, rfl⟩
  rw [← eX] at hF
  have e1 : r = X.1 := by rw [eX]
  have e2 : h' = X.2 := by rw [eX]
  rw [e1, e2]
  clear eX e1 e2
  unfold F_J8_newLength_cabcc at hF
  refine CN_of (by decide) (fun ρ => Nat.le_of_ble_eq_true rfl) rfl ?_
  intro p l e s m args below meth c D cy base ρ hT C V hr hnm
  refine r_iload_n C dJ8_newLength_cabcc_0 rfl 0 rfl ?_
  refine r_iload_n C dJ8_newLength_cabcc_1 rfl 1 rfl ?_
  refine r_iload_n C dJ8_newLength_cabcc_2 rfl 2 rfl ?_
  refine r_mmax C dJ8_newLength_cabcc_3 mm_J8_194 mm_smax mm_i mm_cmax (by decide) (Nat.le_of_ble_eq_true rfl) (by decide) (by decide) ?_
  refine r_iadd C dJ8_newLength_cabcc_6 ?_
  refine k_lti hF (fun x1 hF => ?_)
  refine r_istore_n C dJ8_newLength_cabcc_7 rfl (by decide) rfl ?_
  refine r_iconst (v := 0) C dJ8_newLength_cabcc_8 (by decide) ?_
  refine r_iload_n C dJ8_newLength_cabcc_9 rfl 0 rfl ?_
  obtain ⟨k21, ek21, hF⟩ := jn_some hF
  have Jk21 : ∀  (h2 : PM), k21 h2 = some X → WP p l e (rmN 0 0 1) s m args below meth c D cy base ρ h0 0 0 4 (MQ below (QR D cy base ρ h0 (some (.int X.1)) X.2) args s 0 0 (fun q => base ≤ q)) 21 [(0, .int a0)] [] h2 := by
    intro h2 hF
    rw [ek21] at hF
    cases hF
  refine r_icmp_ge (tgt := 21) C dJ8_newLength_cabcc_10 (by decide) hF (fun hF => ?_) (fun hF => ?_)
  · exact r_sub [1] rfl (Jk21  _ hF)
  · refine r_iload_n C dJ8_newLength_cabcc_13 rfl 0 rfl ?_
    refine r_ldc C dJ8_newLength_cabcc_14 ct_J8_200 ?_
    refine r_icmp_gt (tgt := 21) C dJ8_newLength_cabcc_16 (by decide) hF (fun hF => ?_) (fun hF => ?_)
    · exact r_sub [1] rfl (Jk21  _ hF)
    · refine r_iload_n C dJ8_newLength_cabcc_19 rfl 0 rfl ?_
      exact k_iret C dJ8_newLength_cabcc_20 hr (by decide) (by decide) hF
def F_J7_copyOf_6403c (a0 : Nat) (a1 : Int32) (a2 : Nat) (h0 : PM) : Option (Nat × PM) := acg h0 a2 3 (if ¬ a2 = 3 then (none) else (bnd a1 64 (nA h0 ((a0 + 1)) 25 a1 fun h1 => lt_ ((a0 + 1)) fun x2 => ln h1 a0 fun x3 => cpR h1 a0 0 x2 0 (mn x3 a1) fun h4 => some (x2, h4))))
set_option maxRecDepth 100000 in
set_option maxHeartbeats 4000000 in
theorem S_J7_copyOf_6403c {a0 : Nat} {a1 : Int32} {a2 : Nat} {h0 : PM} (r : Nat) (h' : PM) (hF : F_J7_copyOf_6403c a0 a1 a2 h0 = some (r, h')) : CN yJ7_copyOf_6403c cJ7_copyOf_6403c 4 (some (.array (.object "java/lang/Object"))) 1 64 1 [.ref a0, .int a1, .ref a2] h0 (some (.ref r)) h' := by
  obtain ⟨X, eX⟩ : ∃ X, X = (r, h') := ⟨_, rfl⟩
  rw [← eX] at hF
  have e1 : r = X.1 := by rw [eX]
  have e2 : h' = X.2 := by rw [eX]
  rw [e1, e2]
  clear eX e1 e2
  unfold F_J7_copyOf_6403c at hF
  refine CN_of (by decide) (fun ρ => Nat.le_of_ble_eq_true rfl) rfl ?_
  intro p l e s m args below meth c D cy base ρ hT C V hr hnm
  refine r_aload_n C dJ7_copyOf_6403c_0 rfl 2 rfl ?_
  refine r_ldcM C V dJ7_copyOf_6403c_1 cn_J7_110 ?_
  refine r_acmp_ne (tgt := 13) C dJ7_copyOf_6403c_3 (by decide) hF (fun hF => ?_) (fun hF => ?_)
  · cases hF
  · refine r_iload_n C dJ7_copyOf_6403c_6 rfl 1 rfl ?_
    obtain ⟨hb, hF⟩ := bnd_some hF
    refine k_anew (N := 64) (a := (a0 + 1)) (t := 25) (t0 := 4) C dJ7_copyOf_6403c_7 cn_J7_2 V.2.1.1 (by decide) rfl hb (by decide) (by decide) hF (fun h1 hF => ?_)
    refine r_goto (tgt := 24) C dJ7_copyOf_6403c_10 (by decide) ?_
    refine k_lta hF (fun x2 hF => ?_)
    refine r_astore_n C dJ7_copyOf_6403c_24 rfl (by decide) rfl ?_
    refine r_aload_n C dJ7_copyOf_6403c_25 rfl 1 rfl ?_
    refine r_iconst (v := 0) C dJ7_copyOf_6403c_26 (by decide) ?_
    refine r_aload_n C dJ7_copyOf_6403c_27 rfl 0 rfl ?_
    refine r_iconst (v := 0) C dJ7_copyOf_6403c_28 (by decide) ?_
    refine r_aload_n C dJ7_copyOf_6403c_29 rfl 1 rfl ?_
    refine k_ln C dJ7_copyOf_6403c_30 hF (fun x3 hF => ?_)
    refine r_iload_n C dJ7_copyOf_6403c_31 rfl 2 rfl ?_
    refine r_mmin C dJ7_copyOf_6403c_32 mm_J7_304 mm_smin mm_i mm_cmin (by decide) (Nat.le_of_ble_eq_true rfl) (by decide) (by decide) ?_
    refine k_cpR C V ca_3 ca_6 ca_8 dJ7_copyOf_6403c_35 ay_J7_150 ay_n ay_s ay_i (by decide) (Nat.le_of_ble_eq_true rfl) hF (fun h4 hF => ?_)
    refine r_aload_n C dJ7_copyOf_6403c_38 rfl 0 rfl ?_
    exact k_aret C dJ7_copyOf_6403c_39 hr (by first | exact Or.inl ⟨_, rfl⟩ | exact Or.inr ⟨_, rfl⟩) (by decide) (by decide) hF
def F_J7_copyOf_1904c (a0 : Nat) (a1 : Int32) (h0 : PM) : Option (Nat × PM) := gC h0 a0 (cl (F_J7_copyOf_6403c a0 a1 3 h0) fun r1 h2 => some (r1, h2))
set_option maxRecDepth 100000 in
set_option maxHeartbeats 4000000 in
theorem S_J7_copyOf_1904c {a0 : Nat} {a1 : Int32} {h0 : PM} (r : Nat) (h' : PM) (hF : F_J7_copyOf_1904c a0 a1 h0 = some (r, h')) : CN yJ7_copyOf_1904c cJ7_copyOf_1904c 2 (some (.array (.object "java/lang/Object"))) 1 64 2 [.ref a0, .int a1] h0 (some (.ref r)) h' := by
  obtain ⟨X, eX⟩ : ∃ X, X = (r, h') := ⟨_, rfl⟩
  rw [← eX] at hF
  have e1 : r = X.1 := by rw [eX]
  have e2 : h' = X.2 := by rw [eX]
  rw [e1, e2]
  clear eX e1 e2
  unfold F_J7_copyOf_1904c at hF
  refine CN_of (by decide) (fun ρ => Nat.le_of_ble_eq_true rfl) rfl ?_
  intro p l e s m args below meth c D cy base ρ hT C V hr hnm
  refine r_aload_n C dJ7_copyOf_1904c_0 rfl 0 rfl ?_
  refine r_iload_n C dJ7_copyOf_1904c_1 rfl 1 rfl ?_
  refine r_aload_n C dJ7_copyOf_1904c_2 rfl 0 rfl ?_
  refine k_getC C V dJ7_copyOf_1904c_3 gc_J7_86 gc_s gc_i gc_n (by decide) (Nat.le_of_ble_eq_true rfl) hF (fun hF => ?_)
  obtain ⟨r1, h2, hc3, hF⟩ := cl_some hF
  refine r_callS (As := [.ref a0, .int a1, .ref 3]) C dJ7_copyOf_1904c_6 V hT cal_J7_copyOf_6403c ml_J7_300 sm_J7_copyOf_6403c (by decide) rfl rfl (Nat.le_of_ble_eq_true rfl) (by decide) (by decide) (S_J7_copyOf_6403c _ _ hc3) ?_
  exact k_aret C dJ7_copyOf_1904c_9 hr (by first | exact Or.inl ⟨_, rfl⟩ | exact Or.inr ⟨_, rfl⟩) (by decide) (by decide) hF
def F_Jx4a65c_grow_92f84 (a0 : Nat) (a1 : Int32) (h0 : PM) : Option (Nat × PM) := gR h0 a0 0 1 fun x1 => ln h0 x1 fun x2 => jn (fun  (h3 : PM) => cl (F_J8_newLength_cabcc x2 (a1 - x2) (x2 >>> ((1 : Int32) &&& 31)) h3) fun r4 h5 => gR h5 a0 0 1 fun x7 => cl (F_J7_copyOf_1904c x7 r4 h5) fun r8 h9 => pR h9 a0 0 1 r8 fun h11 => some (r8, h11)) fun k20 => if 0 < x2 then (k20 h0) else (gR h0 a0 0 1 fun x12 => acg h0 x12 2 (if x12 = 2 then (bnd (mx 10 a1) 10 (nA h0 ((a0 + 1)) 25 (mx 10 a1) fun h13 => pR h13 a0 0 1 ((a0 + 1)) fun h14 => some ((a0 + 1), h14))) else (k20 h0)))
set_option maxRecDepth 100000 in
set_option maxHeartbeats 4000000 in
theorem S_Jx4a65c_grow_92f84 {a0 : Nat} {a1 : Int32} {h0 : PM} (r : Nat) (h' : PM) (hF : F_Jx4a65c_grow_92f84 a0 a1 h0 = some (r, h')) : CN yJx4a65c_grow_92f84 cJx4a65c_grow_92f84 4 (some (.array (.object "java/lang/Object"))) 1 64 3 [.ref a0, .int a1] h0 (some (.ref r)) h' := by
  obtain ⟨X, eX⟩ : ∃ X, X = (r, h') := ⟨_, rfl⟩
  rw [← eX] at hF
  have e1 : r = X.1 := by rw [eX]
  have e2 : h' = X.2 := by rw [eX]
  rw [e1, e2]
  clear eX e1 e2
  unfold F_Jx4a65c_grow_92f84 at hF
  refine CN_of (by decide) (fun ρ => Nat.le_of_ble_eq_true rfl) rfl ?_
  intro p l e s m args below meth c D cy base ρ hT C V hr hnm
  refine r_aload_n C dJx4a65c_grow_92f84_0 rfl 0 rfl ?_
  refine k_gR C dJx4a65c_grow_92f84_1 fd_Jx4a65c_9 (by decide) hF (fun x1 hF => ?_)
  refine k_ln C dJx4a65c_grow_92f84_4 hF (fun x2 hF => ?_)
  refine r_istore_n C dJx4a65c_grow_92f84_5 rfl (by decide) rfl ?_
  refine r_iload_n C dJx4a65c_grow_92f84_6 rfl 0 rfl ?_
  obtain ⟨k20, ek20, hF⟩ := jn_some hF
  have Jk20 : ∀  (h3 : PM), k20 h3 = some X → WP p l e (rmN 1 64 3) s m args below meth c D cy base ρ h0 0 0 4 (MQ below (QR D cy base ρ h0 (some (.ref X.1)) X.2) args s 1 64 (fun q => base ≤ q)) 20 [(0, .ref a0), (1, .int a1), (2, .int x2)] [] h3 := by
    intro h3 hF
    rw [ek20] at hF
    refine r_iload_n C dJx4a65c_grow_92f84_20 rfl 2 rfl ?_
    refine r_iload_n C dJx4a65c_grow_92f84_21 rfl 1 rfl ?_
    refine r_iload_n C dJx4a65c_grow_92f84_22 rfl 2 rfl ?_
    refine r_isub C dJx4a65c_grow_92f84_23 ?_
    refine r_iload_n C dJx4a65c_grow_92f84_24 rfl 2 rfl ?_
    refine r_iconst (v := 1) C dJx4a65c_grow_92f84_25 (by decide) ?_
    refine r_ishr C dJx4a65c_grow_92f84_26 ?_
    obtain ⟨r4, h5, hc6, hF⟩ := cl_some hF
    refine r_callS (As := [.int x2, .int (a1 - x2), .int (x2 >>> ((1 : Int32) &&& 31))]) C dJx4a65c_grow_92f84_27 V hT cal_J8_newLength_cabcc ml_Jx4a65c_73 sm_J8_newLength_cabcc (by decide) rfl rfl (Nat.le_of_ble_eq_true rfl) (by decide) (by decide) (S_J8_newLength_cabcc _ _ hc6) ?_
    refine r_istore_n C dJx4a65c_grow_92f84_30 rfl (by decide) rfl ?_
    refine r_aload_n C dJx4a65c_grow_92f84_31 rfl 1 rfl ?_
    refine r_aload_n C dJx4a65c_grow_92f84_32 rfl 1 rfl ?_
    refine k_gR C dJx4a65c_grow_92f84_33 fd_Jx4a65c_9 (by decide) hF (fun x7 hF => ?_)
    refine r_iload_n C dJx4a65c_grow_92f84_36 rfl 0 rfl ?_
    obtain ⟨r8, h9, hc10, hF⟩ := cl_some hF
    refine r_callS (As := [.ref x7, .int r4]) C dJx4a65c_grow_92f84_37 V hT cal_J7_copyOf_1904c ml_Jx4a65c_66 sm_J7_copyOf_1904c (by decide) rfl rfl (Nat.le_of_ble_eq_true rfl) (by decide) (by decide) (S_J7_copyOf_1904c _ _ hc10) ?_
    refine r_dup_x1 C dJx4a65c_grow_92f84_40 rfl rfl ?_
    refine k_pR C dJx4a65c_grow_92f84_41 fd_Jx4a65c_9 (fun z => by cases z) (by decide) hF (fun h11 hF => ?_)
    exact k_aret C dJx4a65c_grow_92f84_44 hr (by first | exact Or.inl ⟨_, rfl⟩ | exact Or.inr ⟨_, rfl⟩) (by decide) (by decide) hF
  refine r_if_gt (tgt := 20) C dJx4a65c_grow_92f84_7 (by decide) hF (fun hF => ?_) (fun hF => ?_)
  · exact r_sub [1, 2, 0] rfl (Jk20  _ hF)
  · refine r_aload_n C dJx4a65c_grow_92f84_10 rfl 1 rfl ?_
    refine k_gR C dJx4a65c_grow_92f84_11 fd_Jx4a65c_9 (by decide) hF (fun x12 hF => ?_)
    refine r_gsD C V dJx4a65c_grow_92f84_14 gs_Jx4a65c_39 ?_
    refine r_acmp_eq (tgt := 45) C dJx4a65c_grow_92f84_17 (by decide) hF (fun hF => ?_) (fun hF => ?_)
    · refine r_aload_n C dJx4a65c_grow_92f84_45 rfl 1 rfl ?_
      refine r_bipush (v := 10) C dJx4a65c_grow_92f84_46 (by decide) ?_
      refine r_iload_n C dJx4a65c_grow_92f84_48 rfl 2 rfl ?_
      refine r_mmax C dJx4a65c_grow_92f84_49 mm_Jx4a65c_79 mm_smax mm_i mm_cmax (by decide) (Nat.le_of_ble_eq_true rfl) (by decide) (by decide) ?_
      obtain ⟨hb, hF⟩ := bnd_some hF
      refine k_anew (N := 10) (a := (a0 + 1)) (t := 25) (t0 := 4) C dJx4a65c_grow_92f84_52 cn_Jx4a65c_7 V.2.1.1 (by decide) rfl hb (by decide) (by decide) hF (fun h13 hF => ?_)
      refine r_dup_x1 C dJx4a65c_grow_92f84_55 rfl rfl ?_
      refine k_pR C dJx4a65c_grow_92f84_56 fd_Jx4a65c_9 (fun z => by cases z) (by decide) hF (fun h14 hF => ?_)
      exact k_aret C dJx4a65c_grow_92f84_59 hr (by first | exact Or.inl ⟨_, rfl⟩ | exact Or.inr ⟨_, rfl⟩) (by decide) (by decide) hF
    · exact r_sub [1, 2, 0] rfl (Jk20  _ hF)
def F_Jx4a65c_grow_d5877 (a0 : Nat) (h0 : PM) : Option (Nat × PM) := gI h0 a0 0 2 fun x1 => tst h0 a0 0 (cl (F_Jx4a65c_grow_92f84 a0 (x1 + 1) h0) fun r2 h3 => some (r2, h3))
set_option maxRecDepth 100000 in
set_option maxHeartbeats 4000000 in
theorem S_Jx4a65c_grow_d5877 {a0 : Nat} {h0 : PM} (r : Nat) (h' : PM) (hF : F_Jx4a65c_grow_d5877 a0 h0 = some (r, h')) : CN yJx4a65c_grow_d5877 cJx4a65c_grow_d5877 1 (some (.array (.object "java/lang/Object"))) 1 64 4 [.ref a0] h0 (some (.ref r)) h' := by
  obtain ⟨X, eX⟩ : ∃ X, X = (r, h') := ⟨_, rfl⟩
  rw [← eX] at hF
  have e1 : r = X.1 := by rw [eX]
  have e2 : h' = X.2 := by rw [eX]
  rw [e1, e2]
  clear eX e1 e2
  unfold F_Jx4a65c_grow_d5877 at hF
  refine CN_of (by decide) (fun ρ => Nat.le_of_ble_eq_true rfl) rfl ?_
  intro p l e s m args below meth c D cy base ρ hT C V hr hnm
  refine r_aload_n C dJx4a65c_grow_d5877_0 rfl 0 rfl ?_
  refine r_aload_n C dJx4a65c_grow_d5877_1 rfl 0 rfl ?_
  refine k_gI C dJx4a65c_grow_d5877_2 fd_Jx4a65c_48 (by decide) hF (fun x1 hF => ?_)
  refine r_iconst (v := 1) C dJx4a65c_grow_d5877_5 (by decide) ?_
  refine r_iadd C dJx4a65c_grow_d5877_6 ?_
  obtain ⟨ht, hF⟩ := tst_some hF
  obtain ⟨r2, h3, hc4, hF⟩ := cl_some hF
  refine r_callV (As := [.int (x1 + 1)]) C dJx4a65c_grow_d5877_7 V hT cal_Jx4a65c_grow_92f84 cls_0 ml_Jx4a65c_69 im_Jx4a65c_grow_92f84 se_Jx4a65c_grow_92f84 ht (by decide) rfl rfl (Nat.le_of_ble_eq_true rfl) (by decide) (by decide) (S_Jx4a65c_grow_92f84 _ _ hc4) ?_
  exact k_aret C dJx4a65c_grow_d5877_10 hr (by first | exact Or.inl ⟨_, rfl⟩ | exact Or.inr ⟨_, rfl⟩) (by decide) (by decide) hF
def F_Jx4a65c_add_72be8 (a0 : Nat) (a1 : Nat) (a2 : Nat) (a3 : Int32) (h0 : PM) : Option (Unit × PM) := ln h0 a2 fun x1 => jn (fun (v2 : Nat) (h3 : PM) => sR h3 v2 a3 a1 fun h4 => pI h4 a0 0 2 (a3 + 1) fun h5 => some ((), h5)) fun k11 => if ¬ a3 = x1 then (k11 a2 h0) else (tst h0 a0 0 (cl (F_Jx4a65c_grow_d5877 a0 h0) fun r6 h7 => k11 r6 h7))
set_option maxRecDepth 100000 in
set_option maxHeartbeats 4000000 in
theorem S_Jx4a65c_add_72be8 {a0 : Nat} {a1 : Nat} {a2 : Nat} {a3 : Int32} {h0 : PM} (r : Unit) (h' : PM) (hF : F_Jx4a65c_add_72be8 a0 a1 a2 a3 h0 = some (r, h')) : CN yJx4a65c_add_72be8 cJx4a65c_add_72be8 4 none 1 64 5 [.ref a0, .ref a1, .ref a2, .int a3] h0 none h' := by
  obtain ⟨X, eX⟩ : ∃ X, X = (r, h') := ⟨_, rfl⟩
  rw [← eX] at hF
  have e1 : r = X.1 := by rw [eX]
  have e2 : h' = X.2 := by rw [eX]
  rw [e2]
  clear eX e1 e2
  unfold F_Jx4a65c_add_72be8 at hF
  refine CN_of (by decide) (fun ρ => Nat.le_of_ble_eq_true rfl) rfl ?_
  intro p l e s m args below meth c D cy base ρ hT C V hr hnm
  refine r_iload_n C dJx4a65c_add_72be8_0 rfl 3 rfl ?_
  refine r_aload_n C dJx4a65c_add_72be8_1 rfl 2 rfl ?_
  refine k_ln C dJx4a65c_add_72be8_2 hF (fun x1 hF => ?_)
  obtain ⟨k11, ek11, hF⟩ := jn_some hF
  have Jk11 : ∀ (v2 : Nat) (h3 : PM), k11 v2 h3 = some X → WP p l e (rmN 1 64 5) s m args below meth c D cy base ρ h0 1 64 4 (MQ below (QR D cy base ρ h0 none X.2) args s 1 64 (fun q => base ≤ q)) 11 [(0, .ref a0), (1, .ref a1), (2, .ref v2), (3, .int a3)] [] h3 := by
    intro v2 h3 hF
    rw [ek11] at hF
    refine r_aload_n C dJx4a65c_add_72be8_11 rfl 2 rfl ?_
    refine r_iload_n C dJx4a65c_add_72be8_12 rfl 3 rfl ?_
    refine r_aload_n C dJx4a65c_add_72be8_13 rfl 1 rfl ?_
    refine k_sR C V ca_3 ca_6 ca_8 dJx4a65c_add_72be8_14 hF (fun h4 hF => ?_)
    refine r_aload_n C dJx4a65c_add_72be8_15 rfl 0 rfl ?_
    refine r_iload_n C dJx4a65c_add_72be8_16 rfl 3 rfl ?_
    refine r_iconst (v := 1) C dJx4a65c_add_72be8_17 (by decide) ?_
    refine r_iadd C dJx4a65c_add_72be8_18 ?_
    refine k_pI C dJx4a65c_add_72be8_19 fd_Jx4a65c_48 (fun z => by cases z) (by decide) hF (fun h5 hF => ?_)
    exact k_vret C dJx4a65c_add_72be8_22 hr (by decide) (by decide) hF
  refine r_icmp_ne (tgt := 11) C dJx4a65c_add_72be8_3 (by decide) hF (fun hF => ?_) (fun hF => ?_)
  · exact WP.cnt (by decide) (by decide) (Jk11 _ _ hF)
  · refine r_aload_n C dJx4a65c_add_72be8_6 rfl 0 rfl ?_
    obtain ⟨ht, hF⟩ := tst_some hF
    obtain ⟨r6, h7, hc8, hF⟩ := cl_some hF
    refine r_callV (As := []) C dJx4a65c_add_72be8_7 V hT cal_Jx4a65c_grow_d5877 cls_0 ml_Jx4a65c_129 im_Jx4a65c_grow_d5877 se_Jx4a65c_grow_d5877 ht (by decide) rfl rfl (Nat.le_of_ble_eq_true rfl) (by decide) (by decide) (S_Jx4a65c_grow_d5877 _ _ hc8) ?_
    refine r_astore_n C dJx4a65c_add_72be8_10 rfl (by decide) rfl ?_
    exact r_sub [1, 2, 0, 3] rfl (Jk11 _ _ hF)
def F_Jx4a65c_add_9ea2d (a0 : Nat) (a1 : Nat) (h0 : PM) : Option (Int32 × PM) := gI h0 a0 0 0 fun x1 => pI h0 a0 0 0 (x1 + 1) fun h2 => gR h2 a0 0 1 fun x3 => gI h2 a0 0 2 fun x4 => tst h2 a0 0 (cl (F_Jx4a65c_add_72be8 a0 a1 x3 x4 h2) fun r5 h6 => rz 1 h6)
set_option maxRecDepth 100000 in
set_option maxHeartbeats 4000000 in
theorem S_Jx4a65c_add_9ea2d {a0 : Nat} {a1 : Nat} {h0 : PM} (r : Int32) (h' : PM) (hF : F_Jx4a65c_add_9ea2d a0 a1 h0 = some (r, h')) : CN yJx4a65c_add_9ea2d cJx4a65c_add_9ea2d 2 (some .boolean) 1 64 6 [.ref a0, .ref a1] h0 (some (.int r)) h' := by
  obtain ⟨X, eX⟩ : ∃ X, X = (r, h') := ⟨_, rfl⟩
  rw [← eX] at hF
  have e1 : r = X.1 := by rw [eX]
  have e2 : h' = X.2 := by rw [eX]
  rw [e1, e2]
  clear eX e1 e2
  unfold F_Jx4a65c_add_9ea2d at hF
  refine CN_of (by decide) (fun ρ => Nat.le_of_ble_eq_true rfl) rfl ?_
  intro p l e s m args below meth c D cy base ρ hT C V hr hnm
  refine r_aload_n C dJx4a65c_add_9ea2d_0 rfl 0 rfl ?_
  refine r_dup C dJx4a65c_add_9ea2d_1 rfl ?_
  refine k_gIs C dJx4a65c_add_9ea2d_2 fs_Jx4a65c_63 (by decide) hF (fun x1 hF => ?_)
  refine r_iconst (v := 1) C dJx4a65c_add_9ea2d_5 (by decide) ?_
  refine r_iadd C dJx4a65c_add_9ea2d_6 ?_
  refine k_pIs C dJx4a65c_add_9ea2d_7 fs_Jx4a65c_63 (by decide) hF (fun h2 hF => ?_)
  refine r_aload_n C dJx4a65c_add_9ea2d_10 rfl 0 rfl ?_
  refine r_aload_n C dJx4a65c_add_9ea2d_11 rfl 1 rfl ?_
  refine r_aload_n C dJx4a65c_add_9ea2d_12 rfl 0 rfl ?_
  refine k_gR C dJx4a65c_add_9ea2d_13 fd_Jx4a65c_9 (by decide) hF (fun x3 hF => ?_)
  refine r_aload_n C dJx4a65c_add_9ea2d_16 rfl 0 rfl ?_
  refine k_gI C dJx4a65c_add_9ea2d_17 fd_Jx4a65c_48 (by decide) hF (fun x4 hF => ?_)
  obtain ⟨ht, hF⟩ := tst_some hF
  obtain ⟨r5, h6, hc7, hF⟩ := cl_some hF
  refine r_callV (As := [.ref a1, .ref x3, .int x4]) C dJx4a65c_add_9ea2d_20 V hT cal_Jx4a65c_add_72be8 cls_0 ml_Jx4a65c_131 im_Jx4a65c_add_72be8 se_Jx4a65c_add_72be8 ht (by decide) rfl rfl (Nat.le_of_ble_eq_true rfl) (by decide) (by decide) (S_Jx4a65c_add_72be8 _ _ hc7) ?_
  refine r_iconst (v := 1) C dJx4a65c_add_9ea2d_23 (by decide) ?_
  exact k_zret C dJx4a65c_add_9ea2d_24 hr (by decide) (by decide) hF
