theorem dX0_init_0 : decode cX0_init 0 = .ok (.aload_n 0, 1) := by decide +kernel
theorem dX0_init_1 : decode cX0_init 1 = .ok (.invokespecial 3, 3) := by decide +kernel
theorem dX0_init_4 : decode cX0_init 4 = .ok (.aload_n 0, 1) := by decide +kernel
theorem dX0_init_5 : decode cX0_init 5 = .ok (.iconst 0, 1) := by decide +kernel
theorem dX0_init_6 : decode cX0_init 6 = .ok (.putfield 9, 3) := by decide +kernel
theorem dX0_init_9 : decode cX0_init 9 = .ok (.aload_n 0, 1) := by decide +kernel
theorem dX0_init_10 : decode cX0_init 10 = .ok (.sipush 180, 3) := by decide +kernel
theorem dX0_init_13 : decode cX0_init 13 = .ok (.putfield 15, 3) := by decide +kernel
theorem dX0_init_16 : decode cX0_init 16 = .ok (.aload_n 0, 1) := by decide +kernel
theorem dX0_init_17 : decode cX0_init 17 = .ok (.sipush 400, 3) := by decide +kernel
theorem dX0_init_20 : decode cX0_init 20 = .ok (.putfield 19, 3) := by decide +kernel
theorem dX0_init_23 : decode cX0_init 23 = .ok (.aload_n 0, 1) := by decide +kernel
theorem dX0_init_24 : decode cX0_init 24 = .ok (.bipush 13, 2) := by decide +kernel
theorem dX0_init_26 : decode cX0_init 26 = .ok (.newarray .int, 2) := by decide +kernel
theorem dX0_init_28 : decode cX0_init 28 = .ok (.putfield 22, 3) := by decide +kernel
theorem dX0_init_31 : decode cX0_init 31 = .ok (.aload_n 0, 1) := by decide +kernel
theorem dX0_init_32 : decode cX0_init 32 = .ok (.iload_n 1, 1) := by decide +kernel
theorem dX0_init_33 : decode cX0_init 33 = .ok (.putfield 26, 3) := by decide +kernel
theorem dX0_init_36 : decode cX0_init 36 = .ok (.aload_n 0, 1) := by decide +kernel
theorem dX0_init_37 : decode cX0_init 37 = .ok (.iload_n 2, 1) := by decide +kernel
theorem dX0_init_38 : decode cX0_init 38 = .ok (.putfield 29, 3) := by decide +kernel
theorem dX0_init_41 : decode cX0_init 41 = .ok (.aload_n 0, 1) := by decide +kernel
theorem dX0_init_42 : decode cX0_init 42 = .ok (.iload_n 3, 1) := by decide +kernel
theorem dX0_init_43 : decode cX0_init 43 = .ok (.putfield 32, 3) := by decide +kernel
theorem dX0_init_46 : decode cX0_init 46 = .ok (.return_, 1) := by decide +kernel
theorem dX0_bit_0 : decode cX0_bit 0 = .ok (.iconst 1, 1) := by decide +kernel
theorem dX0_bit_1 : decode cX0_bit 1 = .ok (.aload_n 0, 1) := by decide +kernel
theorem dX0_bit_2 : decode cX0_bit 2 = .ok (.getfield 26, 3) := by decide +kernel
theorem dX0_bit_5 : decode cX0_bit 5 = .ok (.ishl, 1) := by decide +kernel
theorem dX0_bit_6 : decode cX0_bit 6 = .ok (.ireturn, 1) := by decide +kernel
theorem dX0_isPartOf_0 : decode cX0_isPartOf 0 = .ok (.iload_n 1, 1) := by decide +kernel
theorem dX0_isPartOf_1 : decode cX0_isPartOf 1 = .ok (.aload_n 0, 1) := by decide +kernel
theorem dX0_isPartOf_2 : decode cX0_isPartOf 2 = .ok (.invokevirtual 35, 3) := by decide +kernel
theorem dX0_isPartOf_5 : decode cX0_isPartOf 5 = .ok (.iand, 1) := by decide +kernel
theorem dX0_isPartOf_6 : decode cX0_isPartOf 6 = .ok (.ifCond .eq 7, 3) := by decide +kernel
theorem dX0_isPartOf_9 : decode cX0_isPartOf 9 = .ok (.iconst 1, 1) := by decide +kernel
theorem dX0_isPartOf_10 : decode cX0_isPartOf 10 = .ok (.goto 4, 3) := by decide +kernel
theorem dX0_isPartOf_13 : decode cX0_isPartOf 13 = .ok (.iconst 0, 1) := by decide +kernel
theorem dX0_isPartOf_14 : decode cX0_isPartOf 14 = .ok (.ireturn, 1) := by decide +kernel
theorem dX0_distanceTo_0 : decode cX0_distanceTo 0 = .ok (.aload_n 0, 1) := by decide +kernel
theorem dX0_distanceTo_1 : decode cX0_distanceTo 1 = .ok (.getfield 26, 3) := by decide +kernel
theorem dX0_distanceTo_4 : decode cX0_distanceTo 4 = .ok (.aload_n 1, 1) := by decide +kernel
theorem dX0_distanceTo_5 : decode cX0_distanceTo 5 = .ok (.getfield 26, 3) := by decide +kernel
theorem dX0_distanceTo_8 : decode cX0_distanceTo 8 = .ok (.isub, 1) := by decide +kernel
theorem dX0_distanceTo_9 : decode cX0_distanceTo 9 = .ok (.invokestatic 39, 3) := by decide +kernel
theorem dX0_distanceTo_12 : decode cX0_distanceTo 12 = .ok (.ireturn, 1) := by decide +kernel
theorem dX0_forgetKeys_0 : decode cX0_forgetKeys 0 = .ok (.iconst 0, 1) := by decide +kernel
theorem dX0_forgetKeys_1 : decode cX0_forgetKeys 1 = .ok (.istore_n 1, 1) := by decide +kernel
theorem dX0_forgetKeys_2 : decode cX0_forgetKeys 2 = .ok (.iload_n 1, 1) := by decide +kernel
theorem dX0_forgetKeys_3 : decode cX0_forgetKeys 3 = .ok (.aload_n 0, 1) := by decide +kernel
theorem dX0_forgetKeys_4 : decode cX0_forgetKeys 4 = .ok (.getfield 22, 3) := by decide +kernel
theorem dX0_forgetKeys_7 : decode cX0_forgetKeys 7 = .ok (.arraylength, 1) := by decide +kernel
theorem dX0_forgetKeys_8 : decode cX0_forgetKeys 8 = .ok (.if_icmp .ge 17, 3) := by decide +kernel
theorem dX0_forgetKeys_11 : decode cX0_forgetKeys 11 = .ok (.aload_n 0, 1) := by decide +kernel
theorem dX0_forgetKeys_12 : decode cX0_forgetKeys 12 = .ok (.getfield 22, 3) := by decide +kernel
theorem dX0_forgetKeys_15 : decode cX0_forgetKeys 15 = .ok (.iload_n 1, 1) := by decide +kernel
theorem dX0_forgetKeys_16 : decode cX0_forgetKeys 16 = .ok (.ldc 45, 2) := by decide +kernel
theorem dX0_forgetKeys_18 : decode cX0_forgetKeys 18 = .ok (.iastore, 1) := by decide +kernel
theorem dX0_forgetKeys_19 : decode cX0_forgetKeys 19 = .ok (.iinc 1 1, 3) := by decide +kernel
theorem dX0_forgetKeys_22 : decode cX0_forgetKeys 22 = .ok (.goto (-20), 3) := by decide +kernel
theorem dX0_forgetKeys_25 : decode cX0_forgetKeys 25 = .ok (.return_, 1) := by decide +kernel
theorem dX0_keyFor_0 : decode cX0_keyFor 0 = .ok (.iload_n 1, 1) := by decide +kernel
theorem dX0_keyFor_1 : decode cX0_keyFor 1 = .ok (.ifCond .lt 16, 3) := by decide +kernel
theorem dX0_keyFor_4 : decode cX0_keyFor 4 = .ok (.iload_n 1, 1) := by decide +kernel
theorem dX0_keyFor_5 : decode cX0_keyFor 5 = .ok (.aload_n 0, 1) := by decide +kernel
theorem dX0_keyFor_6 : decode cX0_keyFor 6 = .ok (.getfield 22, 3) := by decide +kernel
theorem dX0_keyFor_9 : decode cX0_keyFor 9 = .ok (.arraylength, 1) := by decide +kernel
theorem dX0_keyFor_10 : decode cX0_keyFor 10 = .ok (.if_icmp .ge 7, 3) := by decide +kernel
theorem dX0_keyFor_13 : decode cX0_keyFor 13 = .ok (.iconst 1, 1) := by decide +kernel
theorem dX0_keyFor_14 : decode cX0_keyFor 14 = .ok (.goto 4, 3) := by decide +kernel
theorem dX0_keyFor_17 : decode cX0_keyFor 17 = .ok (.iconst 0, 1) := by decide +kernel
theorem dX0_keyFor_18 : decode cX0_keyFor 18 = .ok (.istore_n 2, 1) := by decide +kernel
theorem dX0_keyFor_19 : decode cX0_keyFor 19 = .ok (.iload_n 2, 1) := by decide +kernel
theorem dX0_keyFor_20 : decode cX0_keyFor 20 = .ok (.ifCond .eq 12, 3) := by decide +kernel
theorem dX0_keyFor_23 : decode cX0_keyFor 23 = .ok (.aload_n 0, 1) := by decide +kernel
theorem dX0_keyFor_24 : decode cX0_keyFor 24 = .ok (.getfield 22, 3) := by decide +kernel
theorem dX0_keyFor_27 : decode cX0_keyFor 27 = .ok (.iload_n 1, 1) := by decide +kernel
theorem dX0_keyFor_28 : decode cX0_keyFor 28 = .ok (.iaload, 1) := by decide +kernel
theorem dX0_keyFor_29 : decode cX0_keyFor 29 = .ok (.goto 5, 3) := by decide +kernel
theorem dX0_keyFor_32 : decode cX0_keyFor 32 = .ok (.ldc 45, 2) := by decide +kernel
theorem dX0_keyFor_34 : decode cX0_keyFor 34 = .ok (.ireturn, 1) := by decide +kernel
theorem dX0_offerKey_0 : decode cX0_offerKey 0 = .ok (.iload_n 1, 1) := by decide +kernel
theorem dX0_offerKey_1 : decode cX0_offerKey 1 = .ok (.ifCond .lt 29, 3) := by decide +kernel
theorem dX0_offerKey_4 : decode cX0_offerKey 4 = .ok (.iload_n 1, 1) := by decide +kernel
theorem dX0_offerKey_5 : decode cX0_offerKey 5 = .ok (.aload_n 0, 1) := by decide +kernel
theorem dX0_offerKey_6 : decode cX0_offerKey 6 = .ok (.getfield 22, 3) := by decide +kernel
theorem dX0_offerKey_9 : decode cX0_offerKey 9 = .ok (.arraylength, 1) := by decide +kernel
theorem dX0_offerKey_10 : decode cX0_offerKey 10 = .ok (.if_icmp .ge 20, 3) := by decide +kernel
theorem dX0_offerKey_13 : decode cX0_offerKey 13 = .ok (.iload_n 2, 1) := by decide +kernel
theorem dX0_offerKey_14 : decode cX0_offerKey 14 = .ok (.aload_n 0, 1) := by decide +kernel
theorem dX0_offerKey_15 : decode cX0_offerKey 15 = .ok (.getfield 22, 3) := by decide +kernel
theorem dX0_offerKey_18 : decode cX0_offerKey 18 = .ok (.iload_n 1, 1) := by decide +kernel
theorem dX0_offerKey_19 : decode cX0_offerKey 19 = .ok (.iaload, 1) := by decide +kernel
theorem dX0_offerKey_20 : decode cX0_offerKey 20 = .ok (.if_icmp .ge 10, 3) := by decide +kernel
theorem dX0_offerKey_23 : decode cX0_offerKey 23 = .ok (.aload_n 0, 1) := by decide +kernel
theorem dX0_offerKey_24 : decode cX0_offerKey 24 = .ok (.getfield 22, 3) := by decide +kernel
theorem dX0_offerKey_27 : decode cX0_offerKey 27 = .ok (.iload_n 1, 1) := by decide +kernel
theorem dX0_offerKey_28 : decode cX0_offerKey 28 = .ok (.iload_n 2, 1) := by decide +kernel
theorem dX0_offerKey_29 : decode cX0_offerKey 29 = .ok (.iastore, 1) := by decide +kernel
theorem dX0_offerKey_30 : decode cX0_offerKey 30 = .ok (.return_, 1) := by decide +kernel
theorem dX0_followWarmth_0 : decode cX0_followWarmth 0 = .ok (.aload_n 0, 1) := by decide +kernel
theorem dX0_followWarmth_1 : decode cX0_followWarmth 1 = .ok (.getfield 9, 3) := by decide +kernel
theorem dX0_followWarmth_4 : decode cX0_followWarmth 4 = .ok (.ifCond .eq 13, 3) := by decide +kernel
theorem dX0_followWarmth_7 : decode cX0_followWarmth 7 = .ok (.sipush 210, 3) := by decide +kernel
theorem dX0_followWarmth_10 : decode cX0_followWarmth 10 = .ok (.iconst 4, 1) := by decide +kernel
theorem dX0_followWarmth_11 : decode cX0_followWarmth 11 = .ok (.iload_n 1, 1) := by decide +kernel
theorem dX0_followWarmth_12 : decode cX0_followWarmth 12 = .ok (.imul, 1) := by decide +kernel
theorem dX0_followWarmth_13 : decode cX0_followWarmth 13 = .ok (.iadd, 1) := by decide +kernel
theorem dX0_followWarmth_14 : decode cX0_followWarmth 14 = .ok (.goto 6, 3) := by decide +kernel
theorem dX0_followWarmth_17 : decode cX0_followWarmth 17 = .ok (.sipush 150, 3) := by decide +kernel
theorem dX0_followWarmth_20 : decode cX0_followWarmth 20 = .ok (.istore_n 2, 1) := by decide +kernel
theorem dX0_followWarmth_21 : decode cX0_followWarmth 21 = .ok (.iload_n 2, 1) := by decide +kernel
theorem dX0_followWarmth_22 : decode cX0_followWarmth 22 = .ok (.aload_n 0, 1) := by decide +kernel
theorem dX0_followWarmth_23 : decode cX0_followWarmth 23 = .ok (.getfield 15, 3) := by decide +kernel
theorem dX0_followWarmth_26 : decode cX0_followWarmth 26 = .ok (.isub, 1) := by decide +kernel
theorem dX0_followWarmth_27 : decode cX0_followWarmth 27 = .ok (.iconst 4, 1) := by decide +kernel
theorem dX0_followWarmth_28 : decode cX0_followWarmth 28 = .ok (.idiv, 1) := by decide +kernel
theorem dX0_followWarmth_29 : decode cX0_followWarmth 29 = .ok (.istore_n 3, 1) := by decide +kernel
theorem dX0_followWarmth_30 : decode cX0_followWarmth 30 = .ok (.aload_n 0, 1) := by decide +kernel
theorem dX0_followWarmth_31 : decode cX0_followWarmth 31 = .ok (.dup, 1) := by decide +kernel
theorem dX0_followWarmth_32 : decode cX0_followWarmth 32 = .ok (.getfield 15, 3) := by decide +kernel
theorem dX0_followWarmth_35 : decode cX0_followWarmth 35 = .ok (.iload_n 3, 1) := by decide +kernel
theorem dX0_followWarmth_36 : decode cX0_followWarmth 36 = .ok (.iadd, 1) := by decide +kernel
theorem dX0_followWarmth_37 : decode cX0_followWarmth 37 = .ok (.putfield 15, 3) := by decide +kernel
theorem dX0_followWarmth_40 : decode cX0_followWarmth 40 = .ok (.aload_n 0, 1) := by decide +kernel
theorem dX0_followWarmth_41 : decode cX0_followWarmth 41 = .ok (.getfield 9, 3) := by decide +kernel
theorem dX0_followWarmth_44 : decode cX0_followWarmth 44 = .ok (.ifCond .eq 10, 3) := by decide +kernel
theorem dX0_followWarmth_47 : decode cX0_followWarmth 47 = .ok (.iload_n 3, 1) := by decide +kernel
theorem dX0_followWarmth_48 : decode cX0_followWarmth 48 = .ok (.invokestatic 39, 3) := by decide +kernel
theorem dX0_followWarmth_51 : decode cX0_followWarmth 51 = .ok (.goto 4, 3) := by decide +kernel
theorem dX0_followWarmth_54 : decode cX0_followWarmth 54 = .ok (.iconst 0, 1) := by decide +kernel
theorem dX0_followWarmth_55 : decode cX0_followWarmth 55 = .ok (.ireturn, 1) := by decide +kernel
theorem dX0_followAir_0 : decode cX0_followAir 0 = .ok (.aload_n 0, 1) := by decide +kernel
theorem dX0_followAir_1 : decode cX0_followAir 1 = .ok (.getfield 9, 3) := by decide +kernel
theorem dX0_followAir_4 : decode cX0_followAir 4 = .ok (.ifCond .eq 8, 3) := by decide +kernel
theorem dX0_followAir_7 : decode cX0_followAir 7 = .ok (.bipush 30, 2) := by decide +kernel
theorem dX0_followAir_9 : decode cX0_followAir 9 = .ok (.goto 5, 3) := by decide +kernel
theorem dX0_followAir_12 : decode cX0_followAir 12 = .ok (.bipush 10, 2) := by decide +kernel
theorem dX0_followAir_14 : decode cX0_followAir 14 = .ok (.istore_n 2, 1) := by decide +kernel
theorem dX0_followAir_15 : decode cX0_followAir 15 = .ok (.aload_n 0, 1) := by decide +kernel
theorem dX0_followAir_16 : decode cX0_followAir 16 = .ok (.aload_n 0, 1) := by decide +kernel
theorem dX0_followAir_17 : decode cX0_followAir 17 = .ok (.getfield 19, 3) := by decide +kernel
theorem dX0_followAir_20 : decode cX0_followAir 20 = .ok (.bipush 25, 2) := by decide +kernel
theorem dX0_followAir_22 : decode cX0_followAir 22 = .ok (.iload_n 1, 1) := by decide +kernel
theorem dX0_followAir_23 : decode cX0_followAir 23 = .ok (.imul, 1) := by decide +kernel
theorem dX0_followAir_24 : decode cX0_followAir 24 = .ok (.iadd, 1) := by decide +kernel
theorem dX0_followAir_25 : decode cX0_followAir 25 = .ok (.iload_n 2, 1) := by decide +kernel
theorem dX0_followAir_26 : decode cX0_followAir 26 = .ok (.isub, 1) := by decide +kernel
theorem dX0_followAir_27 : decode cX0_followAir 27 = .ok (.sipush 400, 3) := by decide +kernel
theorem dX0_followAir_30 : decode cX0_followAir 30 = .ok (.invokestatic 46, 3) := by decide +kernel
theorem dX0_followAir_33 : decode cX0_followAir 33 = .ok (.putfield 19, 3) := by decide +kernel
theorem dX0_followAir_36 : decode cX0_followAir 36 = .ok (.return_, 1) := by decide +kernel
theorem dX0_discomfortOfOnePerson_0 : decode cX0_discomfortOfOnePerson 0 = .ok (.aload_n 0, 1) := by decide +kernel
theorem dX0_discomfortOfOnePerson_1 : decode cX0_discomfortOfOnePerson 1 = .ok (.getfield 15, 3) := by decide +kernel
theorem dX0_discomfortOfOnePerson_4 : decode cX0_discomfortOfOnePerson 4 = .ok (.sipush 215, 3) := by decide +kernel
theorem dX0_discomfortOfOnePerson_7 : decode cX0_discomfortOfOnePerson 7 = .ok (.isub, 1) := by decide +kernel
theorem dX0_discomfortOfOnePerson_8 : decode cX0_discomfortOfOnePerson 8 = .ok (.invokestatic 39, 3) := by decide +kernel
theorem dX0_discomfortOfOnePerson_11 : decode cX0_discomfortOfOnePerson 11 = .ok (.bipush 10, 2) := by decide +kernel
theorem dX0_discomfortOfOnePerson_13 : decode cX0_discomfortOfOnePerson 13 = .ok (.idiv, 1) := by decide +kernel
theorem dX0_discomfortOfOnePerson_14 : decode cX0_discomfortOfOnePerson 14 = .ok (.istore_n 1, 1) := by decide +kernel
theorem dX0_discomfortOfOnePerson_15 : decode cX0_discomfortOfOnePerson 15 = .ok (.aload_n 0, 1) := by decide +kernel
theorem dX0_discomfortOfOnePerson_16 : decode cX0_discomfortOfOnePerson 16 = .ok (.getfield 19, 3) := by decide +kernel
theorem dX0_discomfortOfOnePerson_19 : decode cX0_discomfortOfOnePerson 19 = .ok (.sipush 500, 3) := by decide +kernel
theorem dX0_discomfortOfOnePerson_22 : decode cX0_discomfortOfOnePerson 22 = .ok (.if_icmp .le 9, 3) := by decide +kernel
theorem dX0_discomfortOfOnePerson_25 : decode cX0_discomfortOfOnePerson 25 = .ok (.iload_n 1, 1) := by decide +kernel
theorem dX0_discomfortOfOnePerson_26 : decode cX0_discomfortOfOnePerson 26 = .ok (.iconst 1, 1) := by decide +kernel
theorem dX0_discomfortOfOnePerson_27 : decode cX0_discomfortOfOnePerson 27 = .ok (.iadd, 1) := by decide +kernel
theorem dX0_discomfortOfOnePerson_28 : decode cX0_discomfortOfOnePerson 28 = .ok (.goto 4, 3) := by decide +kernel
theorem dX0_discomfortOfOnePerson_31 : decode cX0_discomfortOfOnePerson 31 = .ok (.iload_n 1, 1) := by decide +kernel
theorem dX0_discomfortOfOnePerson_32 : decode cX0_discomfortOfOnePerson 32 = .ok (.ireturn, 1) := by decide +kernel
theorem dX1_init_0 : decode cX1_init 0 = .ok (.aload_n 0, 1) := by decide +kernel
theorem dX1_init_1 : decode cX1_init 1 = .ok (.invokespecial 3, 3) := by decide +kernel
theorem dX1_init_4 : decode cX1_init 4 = .ok (.aload_n 0, 1) := by decide +kernel
theorem dX1_init_5 : decode cX1_init 5 = .ok (.iconst 5, 1) := by decide +kernel
theorem dX1_init_6 : decode cX1_init 6 = .ok (.putfield 9, 3) := by decide +kernel
theorem dX1_init_9 : decode cX1_init 9 = .ok (.aload_n 0, 1) := by decide +kernel
theorem dX1_init_10 : decode cX1_init 10 = .ok (.aconst_null, 1) := by decide +kernel
theorem dX1_init_11 : decode cX1_init 11 = .ok (.putfield 15, 3) := by decide +kernel
theorem dX1_init_14 : decode cX1_init 14 = .ok (.aload_n 0, 1) := by decide +kernel
theorem dX1_init_15 : decode cX1_init 15 = .ok (.aconst_null, 1) := by decide +kernel
theorem dX1_init_16 : decode cX1_init 16 = .ok (.putfield 19, 3) := by decide +kernel
theorem dX1_init_19 : decode cX1_init 19 = .ok (.aload_n 0, 1) := by decide +kernel
theorem dX1_init_20 : decode cX1_init 20 = .ok (.iconst 0, 1) := by decide +kernel
theorem dX1_init_21 : decode cX1_init 21 = .ok (.putfield 22, 3) := by decide +kernel
theorem dX1_init_24 : decode cX1_init 24 = .ok (.aload_n 0, 1) := by decide +kernel
theorem dX1_init_25 : decode cX1_init 25 = .ok (.iconst 0, 1) := by decide +kernel
theorem dX1_init_26 : decode cX1_init 26 = .ok (.putfield 26, 3) := by decide +kernel
theorem dX1_init_29 : decode cX1_init 29 = .ok (.aload_n 0, 1) := by decide +kernel
theorem dX1_init_30 : decode cX1_init 30 = .ok (.iload_n 1, 1) := by decide +kernel
theorem dX1_init_31 : decode cX1_init 31 = .ok (.putfield 29, 3) := by decide +kernel
theorem dX1_init_34 : decode cX1_init 34 = .ok (.aload_n 0, 1) := by decide +kernel
theorem dX1_init_35 : decode cX1_init 35 = .ok (.iload_n 2, 1) := by decide +kernel
theorem dX1_init_36 : decode cX1_init 36 = .ok (.putfield 32, 3) := by decide +kernel
theorem dX1_init_39 : decode cX1_init 39 = .ok (.return_, 1) := by decide +kernel
theorem dX1_isNoShow_0 : decode cX1_isNoShow 0 = .ok (.aload_n 0, 1) := by decide +kernel
theorem dX1_isNoShow_1 : decode cX1_isNoShow 1 = .ok (.getfield 19, 3) := by decide +kernel
theorem dX1_isNoShow_4 : decode cX1_isNoShow 4 = .ok (.ifnull 14, 3) := by decide +kernel
theorem dX1_isNoShow_7 : decode cX1_isNoShow 7 = .ok (.aload_n 0, 1) := by decide +kernel
theorem dX1_isNoShow_8 : decode cX1_isNoShow 8 = .ok (.getfield 26, 3) := by decide +kernel
theorem dX1_isNoShow_11 : decode cX1_isNoShow 11 = .ok (.ifCond .ne 7, 3) := by decide +kernel
theorem dX1_isNoShow_14 : decode cX1_isNoShow 14 = .ok (.iconst 1, 1) := by decide +kernel
theorem dX1_isNoShow_15 : decode cX1_isNoShow 15 = .ok (.goto 4, 3) := by decide +kernel
theorem dX1_isNoShow_18 : decode cX1_isNoShow 18 = .ok (.iconst 0, 1) := by decide +kernel
theorem dX1_isNoShow_19 : decode cX1_isNoShow 19 = .ok (.ireturn, 1) := by decide +kernel
theorem dX1_judge_0 : decode cX1_judge 0 = .ok (.aload_n 0, 1) := by decide +kernel
theorem dX1_judge_1 : decode cX1_judge 1 = .ok (.getfield 19, 3) := by decide +kernel
theorem dX1_judge_4 : decode cX1_judge 4 = .ok (.ifnonnull 4, 3) := by decide +kernel
theorem dX1_judge_7 : decode cX1_judge 7 = .ok (.return_, 1) := by decide +kernel
theorem dX1_judge_8 : decode cX1_judge 8 = .ok (.aload_n 0, 1) := by decide +kernel
theorem dX1_judge_9 : decode cX1_judge 9 = .ok (.getfield 26, 3) := by decide +kernel
theorem dX1_judge_12 : decode cX1_judge 12 = .ok (.ifCond .eq 12, 3) := by decide +kernel
theorem dX1_judge_15 : decode cX1_judge 15 = .ok (.aload_n 0, 1) := by decide +kernel
theorem dX1_judge_16 : decode cX1_judge 16 = .ok (.getfield 9, 3) := by decide +kernel
theorem dX1_judge_19 : decode cX1_judge 19 = .ok (.iconst 1, 1) := by decide +kernel
theorem dX1_judge_20 : decode cX1_judge 20 = .ok (.iadd, 1) := by decide +kernel
theorem dX1_judge_21 : decode cX1_judge 21 = .ok (.goto 9, 3) := by decide +kernel
theorem dX1_judge_24 : decode cX1_judge 24 = .ok (.aload_n 0, 1) := by decide +kernel
theorem dX1_judge_25 : decode cX1_judge 25 = .ok (.getfield 9, 3) := by decide +kernel
theorem dX1_judge_28 : decode cX1_judge 28 = .ok (.iconst 1, 1) := by decide +kernel
theorem dX1_judge_29 : decode cX1_judge 29 = .ok (.isub, 1) := by decide +kernel
theorem dX1_judge_30 : decode cX1_judge 30 = .ok (.istore_n 1, 1) := by decide +kernel
theorem dX1_judge_31 : decode cX1_judge 31 = .ok (.aload_n 0, 1) := by decide +kernel
theorem dX1_judge_32 : decode cX1_judge 32 = .ok (.iconst 0, 1) := by decide +kernel
theorem dX1_judge_33 : decode cX1_judge 33 = .ok (.iload_n 1, 1) := by decide +kernel
theorem dX1_judge_34 : decode cX1_judge 34 = .ok (.bipush 10, 2) := by decide +kernel
theorem dX1_judge_36 : decode cX1_judge 36 = .ok (.invokestatic 35, 3) := by decide +kernel
theorem dX1_judge_39 : decode cX1_judge 39 = .ok (.invokestatic 41, 3) := by decide +kernel
theorem dX1_judge_42 : decode cX1_judge 42 = .ok (.putfield 9, 3) := by decide +kernel
theorem dX1_judge_45 : decode cX1_judge 45 = .ok (.return_, 1) := by decide +kernel
theorem dX1_goHome_0 : decode cX1_goHome 0 = .ok (.aload_n 0, 1) := by decide +kernel
theorem dX1_goHome_1 : decode cX1_goHome 1 = .ok (.aconst_null, 1) := by decide +kernel
theorem dX1_goHome_2 : decode cX1_goHome 2 = .ok (.putfield 19, 3) := by decide +kernel
theorem dX1_goHome_5 : decode cX1_goHome 5 = .ok (.aload_n 0, 1) := by decide +kernel
theorem dX1_goHome_6 : decode cX1_goHome 6 = .ok (.iconst 0, 1) := by decide +kernel
theorem dX1_goHome_7 : decode cX1_goHome 7 = .ok (.putfield 22, 3) := by decide +kernel
theorem dX1_goHome_10 : decode cX1_goHome 10 = .ok (.aload_n 0, 1) := by decide +kernel
theorem dX1_goHome_11 : decode cX1_goHome 11 = .ok (.iconst 0, 1) := by decide +kernel
theorem dX1_goHome_12 : decode cX1_goHome 12 = .ok (.putfield 26, 3) := by decide +kernel
theorem dX1_goHome_15 : decode cX1_goHome 15 = .ok (.return_, 1) := by decide +kernel
theorem dX2_init_0 : decode cX2_init 0 = .ok (.aload_n 0, 1) := by decide +kernel
theorem dX2_init_1 : decode cX2_init 1 = .ok (.invokespecial 3, 3) := by decide +kernel
theorem dX2_init_4 : decode cX2_init 4 = .ok (.aload_n 0, 1) := by decide +kernel
theorem dX2_init_5 : decode cX2_init 5 = .ok (.new 9, 3) := by decide +kernel
theorem dX2_init_8 : decode cX2_init 8 = .ok (.dup, 1) := by decide +kernel
theorem dX2_init_9 : decode cX2_init 9 = .ok (.invokespecial 11, 3) := by decide +kernel
theorem dX2_init_12 : decode cX2_init 12 = .ok (.putfield 12, 3) := by decide +kernel
theorem dX2_init_15 : decode cX2_init 15 = .ok (.aload_n 0, 1) := by decide +kernel
theorem dX2_init_16 : decode cX2_init 16 = .ok (.new 9, 3) := by decide +kernel
theorem dX2_init_19 : decode cX2_init 19 = .ok (.dup, 1) := by decide +kernel
theorem dX2_init_20 : decode cX2_init 20 = .ok (.invokespecial 11, 3) := by decide +kernel
theorem dX2_init_23 : decode cX2_init 23 = .ok (.putfield 18, 3) := by decide +kernel
theorem dX2_init_26 : decode cX2_init 26 = .ok (.aload_n 0, 1) := by decide +kernel
theorem dX2_init_27 : decode cX2_init 27 = .ok (.new 9, 3) := by decide +kernel
theorem dX2_init_30 : decode cX2_init 30 = .ok (.dup, 1) := by decide +kernel
theorem dX2_init_31 : decode cX2_init 31 = .ok (.invokespecial 11, 3) := by decide +kernel
theorem dX2_init_34 : decode cX2_init 34 = .ok (.putfield 21, 3) := by decide +kernel
theorem dX2_init_37 : decode cX2_init 37 = .ok (.aload_n 0, 1) := by decide +kernel
theorem dX2_init_38 : decode cX2_init 38 = .ok (.iconst 0, 1) := by decide +kernel
theorem dX2_init_39 : decode cX2_init 39 = .ok (.putfield 24, 3) := by decide +kernel
theorem dX2_init_42 : decode cX2_init 42 = .ok (.aload_n 0, 1) := by decide +kernel
theorem dX2_init_43 : decode cX2_init 43 = .ok (.iconst 0, 1) := by decide +kernel
theorem dX2_init_44 : decode cX2_init 44 = .ok (.putfield 28, 3) := by decide +kernel
theorem dX2_init_47 : decode cX2_init 47 = .ok (.aload_n 0, 1) := by decide +kernel
theorem dX2_init_48 : decode cX2_init 48 = .ok (.lconst 0, 1) := by decide +kernel
theorem dX2_init_49 : decode cX2_init 49 = .ok (.putfield 31, 3) := by decide +kernel
theorem dX2_init_52 : decode cX2_init 52 = .ok (.aload_n 0, 1) := by decide +kernel
theorem dX2_init_53 : decode cX2_init 53 = .ok (.lconst 0, 1) := by decide +kernel
theorem dX2_init_54 : decode cX2_init 54 = .ok (.putfield 35, 3) := by decide +kernel
theorem dX2_init_57 : decode cX2_init 57 = .ok (.aload_n 0, 1) := by decide +kernel
theorem dX2_init_58 : decode cX2_init 58 = .ok (.lconst 0, 1) := by decide +kernel
theorem dX2_init_59 : decode cX2_init 59 = .ok (.putfield 38, 3) := by decide +kernel
theorem dX2_init_62 : decode cX2_init 62 = .ok (.return_, 1) := by decide +kernel
theorem dX2_addFloor_0 : decode cX2_addFloor 0 = .ok (.iload_n 1, 1) := by decide +kernel
theorem dX2_addFloor_1 : decode cX2_addFloor 1 = .ok (.iconst 1, 1) := by decide +kernel
theorem dX2_addFloor_2 : decode cX2_addFloor 2 = .ok (.if_icmp .lt 9, 3) := by decide +kernel
theorem dX2_addFloor_5 : decode cX2_addFloor 5 = .ok (.iload_n 1, 1) := by decide +kernel
theorem dX2_addFloor_6 : decode cX2_addFloor 6 = .ok (.bipush 12, 2) := by decide +kernel
theorem dX2_addFloor_8 : decode cX2_addFloor 8 = .ok (.if_icmp .le 13, 3) := by decide +kernel
theorem dX2_addFloor_11 : decode cX2_addFloor 11 = .ok (.new 41, 3) := by decide +kernel
theorem dX2_addFloor_14 : decode cX2_addFloor 14 = .ok (.dup, 1) := by decide +kernel
theorem dX2_addFloor_15 : decode cX2_addFloor 15 = .ok (.ldc 43, 2) := by decide +kernel
theorem dX2_addFloor_17 : decode cX2_addFloor 17 = .ok (.invokespecial 45, 3) := by decide +kernel
theorem dX2_addFloor_20 : decode cX2_addFloor 20 = .ok (.athrow, 1) := by decide +kernel
theorem dX2_addFloor_21 : decode cX2_addFloor 21 = .ok (.iload_n 2, 1) := by decide +kernel
theorem dX2_addFloor_22 : decode cX2_addFloor 22 = .ok (.invokestatic 48, 3) := by decide +kernel
theorem dX2_addFloor_25 : decode cX2_addFloor 25 = .ok (.aload_n 0, 1) := by decide +kernel
theorem dX2_addFloor_26 : decode cX2_addFloor 26 = .ok (.getfield 12, 3) := by decide +kernel
theorem dX2_addFloor_29 : decode cX2_addFloor 29 = .ok (.invokevirtual 52, 3) := by decide +kernel
theorem dX2_addFloor_32 : decode cX2_addFloor 32 = .ok (.istore_n 3, 1) := by decide +kernel
theorem dX2_addFloor_33 : decode cX2_addFloor 33 = .ok (.iload_n 3, 1) := by decide +kernel
theorem dX2_addFloor_34 : decode cX2_addFloor 34 = .ok (.bipush 6, 2) := by decide +kernel
theorem dX2_addFloor_36 : decode cX2_addFloor 36 = .ok (.if_icmp .lt 13, 3) := by decide +kernel
theorem dX2_addFloor_39 : decode cX2_addFloor 39 = .ok (.new 56, 3) := by decide +kernel
theorem dX2_addFloor_42 : decode cX2_addFloor 42 = .ok (.dup, 1) := by decide +kernel
theorem dX2_addFloor_43 : decode cX2_addFloor 43 = .ok (.ldc 58, 2) := by decide +kernel
theorem dX2_addFloor_45 : decode cX2_addFloor 45 = .ok (.invokespecial 60, 3) := by decide +kernel
theorem dX2_addFloor_48 : decode cX2_addFloor 48 = .ok (.athrow, 1) := by decide +kernel
theorem dX2_addFloor_49 : decode cX2_addFloor 49 = .ok (.aload_n 0, 1) := by decide +kernel
theorem dX2_addFloor_50 : decode cX2_addFloor 50 = .ok (.getfield 12, 3) := by decide +kernel
theorem dX2_addFloor_53 : decode cX2_addFloor 53 = .ok (.new 61, 3) := by decide +kernel
theorem dX2_addFloor_56 : decode cX2_addFloor 56 = .ok (.dup, 1) := by decide +kernel
theorem dX2_addFloor_57 : decode cX2_addFloor 57 = .ok (.iload_n 3, 1) := by decide +kernel
theorem dX2_addFloor_58 : decode cX2_addFloor 58 = .ok (.iload_n 1, 1) := by decide +kernel
theorem dX2_addFloor_59 : decode cX2_addFloor 59 = .ok (.iload_n 2, 1) := by decide +kernel
theorem dX2_addFloor_60 : decode cX2_addFloor 60 = .ok (.invokespecial 63, 3) := by decide +kernel
theorem dX2_addFloor_63 : decode cX2_addFloor 63 = .ok (.invokevirtual 66, 3) := by decide +kernel
theorem dX2_addFloor_66 : decode cX2_addFloor 66 = .ok (.pop, 1) := by decide +kernel
theorem dX2_addFloor_67 : decode cX2_addFloor 67 = .ok (.iload_n 3, 1) := by decide +kernel
theorem dX2_addFloor_68 : decode cX2_addFloor 68 = .ok (.ireturn, 1) := by decide +kernel
theorem dX2_setCost_0 : decode cX2_setCost 0 = .ok (.aload_n 0, 1) := by decide +kernel
theorem dX2_setCost_1 : decode cX2_setCost 1 = .ok (.iload_n 1, 1) := by decide +kernel
theorem dX2_setCost_2 : decode cX2_setCost 2 = .ok (.invokevirtual 70, 3) := by decide +kernel
theorem dX2_setCost_5 : decode cX2_setCost 5 = .ok (.astore_n 3, 1) := by decide +kernel
theorem dX2_setCost_6 : decode cX2_setCost 6 = .ok (.iload_n 2, 1) := by decide +kernel
theorem dX2_setCost_7 : decode cX2_setCost 7 = .ok (.invokestatic 48, 3) := by decide +kernel
theorem dX2_setCost_10 : decode cX2_setCost 10 = .ok (.aload_n 3, 1) := by decide +kernel
theorem dX2_setCost_11 : decode cX2_setCost 11 = .ok (.getfield 74, 3) := by decide +kernel
theorem dX2_setCost_14 : decode cX2_setCost 14 = .ok (.istore 4, 2) := by decide +kernel
theorem dX2_setCost_16 : decode cX2_setCost 16 = .ok (.aload_n 3, 1) := by decide +kernel
theorem dX2_setCost_17 : decode cX2_setCost 17 = .ok (.iload_n 2, 1) := by decide +kernel
theorem dX2_setCost_18 : decode cX2_setCost 18 = .ok (.putfield 74, 3) := by decide +kernel
theorem dX2_setCost_21 : decode cX2_setCost 21 = .ok (.iload 4, 2) := by decide +kernel
theorem dX2_setCost_23 : decode cX2_setCost 23 = .ok (.ireturn, 1) := by decide +kernel
theorem dX2_addPerson_0 : decode cX2_addPerson 0 = .ok (.iload_n 1, 1) := by decide +kernel
theorem dX2_addPerson_1 : decode cX2_addPerson 1 = .ok (.invokestatic 77, 3) := by decide +kernel
theorem dX2_addPerson_4 : decode cX2_addPerson 4 = .ok (.aload_n 0, 1) := by decide +kernel
theorem dX2_addPerson_5 : decode cX2_addPerson 5 = .ok (.getfield 18, 3) := by decide +kernel
theorem dX2_addPerson_8 : decode cX2_addPerson 8 = .ok (.invokevirtual 52, 3) := by decide +kernel
theorem dX2_addPerson_11 : decode cX2_addPerson 11 = .ok (.istore_n 2, 1) := by decide +kernel
theorem dX2_addPerson_12 : decode cX2_addPerson 12 = .ok (.iload_n 2, 1) := by decide +kernel
theorem dX2_addPerson_13 : decode cX2_addPerson 13 = .ok (.bipush 12, 2) := by decide +kernel
theorem dX2_addPerson_15 : decode cX2_addPerson 15 = .ok (.if_icmp .lt 13, 3) := by decide +kernel
theorem dX2_addPerson_18 : decode cX2_addPerson 18 = .ok (.new 56, 3) := by decide +kernel
theorem dX2_addPerson_21 : decode cX2_addPerson 21 = .ok (.dup, 1) := by decide +kernel
theorem dX2_addPerson_22 : decode cX2_addPerson 22 = .ok (.ldc 80, 2) := by decide +kernel
theorem dX2_addPerson_24 : decode cX2_addPerson 24 = .ok (.invokespecial 60, 3) := by decide +kernel
theorem dX2_addPerson_27 : decode cX2_addPerson 27 = .ok (.athrow, 1) := by decide +kernel
theorem dX2_addPerson_28 : decode cX2_addPerson 28 = .ok (.aload_n 0, 1) := by decide +kernel
theorem dX2_addPerson_29 : decode cX2_addPerson 29 = .ok (.getfield 18, 3) := by decide +kernel
theorem dX2_addPerson_32 : decode cX2_addPerson 32 = .ok (.new 82, 3) := by decide +kernel
theorem dX2_addPerson_35 : decode cX2_addPerson 35 = .ok (.dup, 1) := by decide +kernel
theorem dX2_addPerson_36 : decode cX2_addPerson 36 = .ok (.iload_n 2, 1) := by decide +kernel
theorem dX2_addPerson_37 : decode cX2_addPerson 37 = .ok (.iload_n 1, 1) := by decide +kernel
theorem dX2_addPerson_38 : decode cX2_addPerson 38 = .ok (.invokespecial 84, 3) := by decide +kernel
theorem dX2_addPerson_41 : decode cX2_addPerson 41 = .ok (.invokevirtual 66, 3) := by decide +kernel
theorem dX2_addPerson_44 : decode cX2_addPerson 44 = .ok (.pop, 1) := by decide +kernel
theorem dX2_addPerson_45 : decode cX2_addPerson 45 = .ok (.iload_n 2, 1) := by decide +kernel
theorem dX2_addPerson_46 : decode cX2_addPerson 46 = .ok (.ireturn, 1) := by decide +kernel
theorem dX2_standing_0 : decode cX2_standing 0 = .ok (.aload_n 0, 1) := by decide +kernel
theorem dX2_standing_1 : decode cX2_standing 1 = .ok (.iload_n 1, 1) := by decide +kernel
theorem dX2_standing_2 : decode cX2_standing 2 = .ok (.invokevirtual 87, 3) := by decide +kernel
theorem dX2_standing_5 : decode cX2_standing 5 = .ok (.getfield 91, 3) := by decide +kernel
theorem dX2_standing_8 : decode cX2_standing 8 = .ok (.ireturn, 1) := by decide +kernel
theorem dX2_book_0 : decode cX2_book 0 = .ok (.aload_n 0, 1) := by decide +kernel
theorem dX2_book_1 : decode cX2_book 1 = .ok (.iload_n 1, 1) := by decide +kernel
theorem dX2_book_2 : decode cX2_book 2 = .ok (.invokevirtual 87, 3) := by decide +kernel
theorem dX2_book_5 : decode cX2_book 5 = .ok (.astore_n 3, 1) := by decide +kernel
theorem dX2_book_6 : decode cX2_book 6 = .ok (.aload_n 0, 1) := by decide +kernel
theorem dX2_book_7 : decode cX2_book 7 = .ok (.iload_n 2, 1) := by decide +kernel
theorem dX2_book_8 : decode cX2_book 8 = .ok (.invokevirtual 70, 3) := by decide +kernel
theorem dX2_book_11 : decode cX2_book 11 = .ok (.astore 4, 2) := by decide +kernel
theorem dX2_book_13 : decode cX2_book 13 = .ok (.aload_n 3, 1) := by decide +kernel
theorem dX2_book_14 : decode cX2_book 14 = .ok (.getfield 94, 3) := by decide +kernel
theorem dX2_book_17 : decode cX2_book 17 = .ok (.ifnull 13, 3) := by decide +kernel
theorem dX2_book_20 : decode cX2_book 20 = .ok (.new 56, 3) := by decide +kernel
theorem dX2_book_23 : decode cX2_book 23 = .ok (.dup, 1) := by decide +kernel
theorem dX2_book_24 : decode cX2_book 24 = .ok (.ldc 98, 2) := by decide +kernel
theorem dX2_book_26 : decode cX2_book 26 = .ok (.invokespecial 60, 3) := by decide +kernel
theorem dX2_book_29 : decode cX2_book 29 = .ok (.athrow, 1) := by decide +kernel
theorem dX2_book_30 : decode cX2_book 30 = .ok (.aload_n 0, 1) := by decide +kernel
theorem dX2_book_31 : decode cX2_book 31 = .ok (.getfield 21, 3) := by decide +kernel
theorem dX2_book_34 : decode cX2_book 34 = .ok (.invokevirtual 52, 3) := by decide +kernel
theorem dX2_book_37 : decode cX2_book 37 = .ok (.aload_n 0, 1) := by decide +kernel
theorem dX2_book_38 : decode cX2_book 38 = .ok (.aload_n 0, 1) := by decide +kernel
theorem dX2_book_39 : decode cX2_book 39 = .ok (.invokevirtual 100, 3) := by decide +kernel
theorem dX2_book_42 : decode cX2_book 42 = .ok (.invokevirtual 103, 3) := by decide +kernel
theorem dX2_book_45 : decode cX2_book 45 = .ok (.if_icmp .lt 13, 3) := by decide +kernel
theorem dX2_book_48 : decode cX2_book 48 = .ok (.new 107, 3) := by decide +kernel
theorem dX2_book_51 : decode cX2_book 51 = .ok (.dup, 1) := by decide +kernel
theorem dX2_book_52 : decode cX2_book 52 = .ok (.ldc 109, 2) := by decide +kernel
theorem dX2_book_54 : decode cX2_book 54 = .ok (.invokespecial 111, 3) := by decide +kernel
theorem dX2_book_57 : decode cX2_book 57 = .ok (.athrow, 1) := by decide +kernel
theorem dX2_book_58 : decode cX2_book 58 = .ok (.aload_n 3, 1) := by decide +kernel
theorem dX2_book_59 : decode cX2_book 59 = .ok (.aload 4, 2) := by decide +kernel
theorem dX2_book_61 : decode cX2_book 61 = .ok (.putfield 94, 3) := by decide +kernel
theorem dX2_book_64 : decode cX2_book 64 = .ok (.aload_n 0, 1) := by decide +kernel
theorem dX2_book_65 : decode cX2_book 65 = .ok (.getfield 21, 3) := by decide +kernel
theorem dX2_book_68 : decode cX2_book 68 = .ok (.aload_n 3, 1) := by decide +kernel
theorem dX2_book_69 : decode cX2_book 69 = .ok (.invokevirtual 66, 3) := by decide +kernel
theorem dX2_book_72 : decode cX2_book 72 = .ok (.pop, 1) := by decide +kernel
theorem dX2_book_73 : decode cX2_book 73 = .ok (.aload_n 0, 1) := by decide +kernel
theorem dX2_book_74 : decode cX2_book 74 = .ok (.getfield 21, 3) := by decide +kernel
theorem dX2_book_77 : decode cX2_book 77 = .ok (.invokevirtual 52, 3) := by decide +kernel
theorem dX2_book_80 : decode cX2_book 80 = .ok (.ireturn, 1) := by decide +kernel
theorem dX2_cancel_0 : decode cX2_cancel 0 = .ok (.aload_n 0, 1) := by decide +kernel
theorem dX2_cancel_1 : decode cX2_cancel 1 = .ok (.iload_n 1, 1) := by decide +kernel
theorem dX2_cancel_2 : decode cX2_cancel 2 = .ok (.invokevirtual 87, 3) := by decide +kernel
theorem dX2_cancel_5 : decode cX2_cancel 5 = .ok (.astore_n 2, 1) := by decide +kernel
theorem dX2_cancel_6 : decode cX2_cancel 6 = .ok (.aload_n 2, 1) := by decide +kernel
theorem dX2_cancel_7 : decode cX2_cancel 7 = .ok (.getfield 94, 3) := by decide +kernel
theorem dX2_cancel_10 : decode cX2_cancel 10 = .ok (.astore_n 3, 1) := by decide +kernel
theorem dX2_cancel_11 : decode cX2_cancel 11 = .ok (.aload_n 3, 1) := by decide +kernel
theorem dX2_cancel_12 : decode cX2_cancel 12 = .ok (.ifnonnull 13, 3) := by decide +kernel
theorem dX2_cancel_15 : decode cX2_cancel 15 = .ok (.new 112, 3) := by decide +kernel
theorem dX2_cancel_18 : decode cX2_cancel 18 = .ok (.dup, 1) := by decide +kernel
theorem dX2_cancel_19 : decode cX2_cancel 19 = .ok (.ldc 114, 2) := by decide +kernel
theorem dX2_cancel_21 : decode cX2_cancel 21 = .ok (.invokespecial 116, 3) := by decide +kernel
theorem dX2_cancel_24 : decode cX2_cancel 24 = .ok (.athrow, 1) := by decide +kernel
theorem dX2_cancel_25 : decode cX2_cancel 25 = .ok (.aload_n 2, 1) := by decide +kernel
theorem dX2_cancel_26 : decode cX2_cancel 26 = .ok (.aconst_null, 1) := by decide +kernel
theorem dX2_cancel_27 : decode cX2_cancel 27 = .ok (.putfield 94, 3) := by decide +kernel
theorem dX2_cancel_30 : decode cX2_cancel 30 = .ok (.aload_n 0, 1) := by decide +kernel
theorem dX2_cancel_31 : decode cX2_cancel 31 = .ok (.aload_n 2, 1) := by decide +kernel
theorem dX2_cancel_32 : decode cX2_cancel 32 = .ok (.invokevirtual 117, 3) := by decide +kernel
theorem dX2_cancel_35 : decode cX2_cancel 35 = .ok (.aload_n 3, 1) := by decide +kernel
theorem dX2_cancel_36 : decode cX2_cancel 36 = .ok (.getfield 121, 3) := by decide +kernel
theorem dX2_cancel_39 : decode cX2_cancel 39 = .ok (.ireturn, 1) := by decide +kernel
theorem dX2_bookings_0 : decode cX2_bookings 0 = .ok (.aload_n 0, 1) := by decide +kernel
theorem dX2_bookings_1 : decode cX2_bookings 1 = .ok (.getfield 21, 3) := by decide +kernel
theorem dX2_bookings_4 : decode cX2_bookings 4 = .ok (.invokevirtual 52, 3) := by decide +kernel
theorem dX2_bookings_7 : decode cX2_bookings 7 = .ok (.ireturn, 1) := by decide +kernel
theorem dX2_bookingAt_0 : decode cX2_bookingAt 0 = .ok (.iload_n 1, 1) := by decide +kernel
theorem dX2_bookingAt_1 : decode cX2_bookingAt 1 = .ok (.ifCond .lt 14, 3) := by decide +kernel
theorem dX2_bookingAt_4 : decode cX2_bookingAt 4 = .ok (.iload_n 1, 1) := by decide +kernel
theorem dX2_bookingAt_5 : decode cX2_bookingAt 5 = .ok (.aload_n 0, 1) := by decide +kernel
theorem dX2_bookingAt_6 : decode cX2_bookingAt 6 = .ok (.getfield 21, 3) := by decide +kernel
theorem dX2_bookingAt_9 : decode cX2_bookingAt 9 = .ok (.invokevirtual 52, 3) := by decide +kernel
theorem dX2_bookingAt_12 : decode cX2_bookingAt 12 = .ok (.if_icmp .lt 13, 3) := by decide +kernel
theorem dX2_bookingAt_15 : decode cX2_bookingAt 15 = .ok (.new 124, 3) := by decide +kernel
theorem dX2_bookingAt_18 : decode cX2_bookingAt 18 = .ok (.dup, 1) := by decide +kernel
theorem dX2_bookingAt_19 : decode cX2_bookingAt 19 = .ok (.ldc 126, 2) := by decide +kernel
theorem dX2_bookingAt_21 : decode cX2_bookingAt 21 = .ok (.invokespecial 128, 3) := by decide +kernel
theorem dX2_bookingAt_24 : decode cX2_bookingAt 24 = .ok (.athrow, 1) := by decide +kernel
theorem dX2_bookingAt_25 : decode cX2_bookingAt 25 = .ok (.aload_n 0, 1) := by decide +kernel
theorem dX2_bookingAt_26 : decode cX2_bookingAt 26 = .ok (.getfield 21, 3) := by decide +kernel
theorem dX2_bookingAt_29 : decode cX2_bookingAt 29 = .ok (.iload_n 1, 1) := by decide +kernel
theorem dX2_bookingAt_30 : decode cX2_bookingAt 30 = .ok (.invokevirtual 129, 3) := by decide +kernel
theorem dX2_bookingAt_33 : decode cX2_bookingAt 33 = .ok (.checkcast 82, 3) := by decide +kernel
theorem dX2_bookingAt_36 : decode cX2_bookingAt 36 = .ok (.getfield 133, 3) := by decide +kernel
theorem dX2_bookingAt_39 : decode cX2_bookingAt 39 = .ok (.ireturn, 1) := by decide +kernel
theorem dX2_plan_0 : decode cX2_plan 0 = .ok (.aload_n 0, 1) := by decide +kernel
theorem dX2_plan_1 : decode cX2_plan 1 = .ok (.invokevirtual 134, 3) := by decide +kernel
theorem dX2_plan_4 : decode cX2_plan 4 = .ok (.bipush 64, 2) := by decide +kernel
theorem dX2_plan_6 : decode cX2_plan 6 = .ok (.irem, 1) := by decide +kernel
theorem dX2_plan_7 : decode cX2_plan 7 = .ok (.ireturn, 1) := by decide +kernel
theorem dX2_planByTrying_0 : decode cX2_planByTrying 0 = .ok (.iconst 0, 1) := by decide +kernel
theorem dX2_planByTrying_1 : decode cX2_planByTrying 1 = .ok (.istore_n 1, 1) := by decide +kernel
theorem dX2_planByTrying_2 : decode cX2_planByTrying 2 = .ok (.ldc 137, 2) := by decide +kernel
theorem dX2_planByTrying_4 : decode cX2_planByTrying 4 = .ok (.istore_n 2, 1) := by decide +kernel
theorem dX2_planByTrying_5 : decode cX2_planByTrying 5 = .ok (.aload_n 0, 1) := by decide +kernel
theorem dX2_planByTrying_6 : decode cX2_planByTrying 6 = .ok (.invokevirtual 100, 3) := by decide +kernel
theorem dX2_planByTrying_9 : decode cX2_planByTrying 9 = .ok (.istore_n 3, 1) := by decide +kernel
theorem dX2_planByTrying_10 : decode cX2_planByTrying 10 = .ok (.iconst 0, 1) := by decide +kernel
theorem dX2_planByTrying_11 : decode cX2_planByTrying 11 = .ok (.istore 4, 2) := by decide +kernel
theorem dX2_planByTrying_13 : decode cX2_planByTrying 13 = .ok (.iload 4, 2) := by decide +kernel
theorem dX2_planByTrying_15 : decode cX2_planByTrying 15 = .ok (.iload_n 3, 1) := by decide +kernel
theorem dX2_planByTrying_16 : decode cX2_planByTrying 16 = .ok (.if_icmp .gt 43, 3) := by decide +kernel
theorem dX2_planByTrying_19 : decode cX2_planByTrying 19 = .ok (.aload_n 0, 1) := by decide +kernel
theorem dX2_planByTrying_20 : decode cX2_planByTrying 20 = .ok (.iload 4, 2) := by decide +kernel
theorem dX2_planByTrying_22 : decode cX2_planByTrying 22 = .ok (.invokevirtual 138, 3) := by decide +kernel
theorem dX2_planByTrying_25 : decode cX2_planByTrying 25 = .ok (.ifCond .eq 12, 3) := by decide +kernel
theorem dX2_planByTrying_28 : decode cX2_planByTrying 28 = .ok (.aload_n 0, 1) := by decide +kernel
theorem dX2_planByTrying_29 : decode cX2_planByTrying 29 = .ok (.iload 4, 2) := by decide +kernel
theorem dX2_planByTrying_31 : decode cX2_planByTrying 31 = .ok (.invokevirtual 142, 3) := by decide +kernel
theorem dX2_planByTrying_34 : decode cX2_planByTrying 34 = .ok (.goto 5, 3) := by decide +kernel
theorem dX2_planByTrying_37 : decode cX2_planByTrying 37 = .ok (.ldc 137, 2) := by decide +kernel
theorem dX2_planByTrying_39 : decode cX2_planByTrying 39 = .ok (.istore 5, 2) := by decide +kernel
theorem dX2_planByTrying_41 : decode cX2_planByTrying 41 = .ok (.iload 5, 2) := by decide +kernel
theorem dX2_planByTrying_43 : decode cX2_planByTrying 43 = .ok (.iload_n 2, 1) := by decide +kernel
theorem dX2_planByTrying_44 : decode cX2_planByTrying 44 = .ok (.if_icmp .ge 9, 3) := by decide +kernel
theorem dX2_planByTrying_47 : decode cX2_planByTrying 47 = .ok (.iload 4, 2) := by decide +kernel
theorem dX2_planByTrying_49 : decode cX2_planByTrying 49 = .ok (.istore_n 1, 1) := by decide +kernel
theorem dX2_planByTrying_50 : decode cX2_planByTrying 50 = .ok (.iload 5, 2) := by decide +kernel
theorem dX2_planByTrying_52 : decode cX2_planByTrying 52 = .ok (.istore_n 2, 1) := by decide +kernel
theorem dX2_planByTrying_53 : decode cX2_planByTrying 53 = .ok (.iinc 4 1, 3) := by decide +kernel
theorem dX2_planByTrying_56 : decode cX2_planByTrying 56 = .ok (.goto (-43), 3) := by decide +kernel
theorem dX2_planByTrying_59 : decode cX2_planByTrying 59 = .ok (.iload_n 1, 1) := by decide +kernel
theorem dX2_planByTrying_60 : decode cX2_planByTrying 60 = .ok (.ireturn, 1) := by decide +kernel
theorem dX2_planLoss_0 : decode cX2_planLoss 0 = .ok (.aload_n 0, 1) := by decide +kernel
theorem dX2_planLoss_1 : decode cX2_planLoss 1 = .ok (.invokevirtual 134, 3) := by decide +kernel
theorem dX2_planLoss_4 : decode cX2_planLoss 4 = .ok (.bipush 64, 2) := by decide +kernel
theorem dX2_planLoss_6 : decode cX2_planLoss 6 = .ok (.idiv, 1) := by decide +kernel
theorem dX2_planLoss_7 : decode cX2_planLoss 7 = .ok (.ireturn, 1) := by decide +kernel
theorem dX2_lossOf_0 : decode cX2_lossOf 0 = .ok (.iload_n 1, 1) := by decide +kernel
theorem dX2_lossOf_1 : decode cX2_lossOf 1 = .ok (.ifCond .lt 11, 3) := by decide +kernel
theorem dX2_lossOf_4 : decode cX2_lossOf 4 = .ok (.iload_n 1, 1) := by decide +kernel
theorem dX2_lossOf_5 : decode cX2_lossOf 5 = .ok (.aload_n 0, 1) := by decide +kernel
theorem dX2_lossOf_6 : decode cX2_lossOf 6 = .ok (.invokevirtual 100, 3) := by decide +kernel
theorem dX2_lossOf_9 : decode cX2_lossOf 9 = .ok (.if_icmp .le 13, 3) := by decide +kernel
theorem dX2_lossOf_12 : decode cX2_lossOf 12 = .ok (.new 41, 3) := by decide +kernel
theorem dX2_lossOf_15 : decode cX2_lossOf 15 = .ok (.dup, 1) := by decide +kernel
theorem dX2_lossOf_16 : decode cX2_lossOf 16 = .ok (.ldc 145, 2) := by decide +kernel
theorem dX2_lossOf_18 : decode cX2_lossOf 18 = .ok (.invokespecial 45, 3) := by decide +kernel
theorem dX2_lossOf_21 : decode cX2_lossOf 21 = .ok (.athrow, 1) := by decide +kernel
theorem dX2_lossOf_22 : decode cX2_lossOf 22 = .ok (.aload_n 0, 1) := by decide +kernel
theorem dX2_lossOf_23 : decode cX2_lossOf 23 = .ok (.iload_n 1, 1) := by decide +kernel
theorem dX2_lossOf_24 : decode cX2_lossOf 24 = .ok (.invokevirtual 138, 3) := by decide +kernel
theorem dX2_lossOf_27 : decode cX2_lossOf 27 = .ok (.ifCond .ne 13, 3) := by decide +kernel
theorem dX2_lossOf_30 : decode cX2_lossOf 30 = .ok (.new 107, 3) := by decide +kernel
theorem dX2_lossOf_33 : decode cX2_lossOf 33 = .ok (.dup, 1) := by decide +kernel
theorem dX2_lossOf_34 : decode cX2_lossOf 34 = .ok (.ldc 147, 2) := by decide +kernel
theorem dX2_lossOf_36 : decode cX2_lossOf 36 = .ok (.invokespecial 111, 3) := by decide +kernel
theorem dX2_lossOf_39 : decode cX2_lossOf 39 = .ok (.athrow, 1) := by decide +kernel
theorem dX2_lossOf_40 : decode cX2_lossOf 40 = .ok (.aload_n 0, 1) := by decide +kernel
theorem dX2_lossOf_41 : decode cX2_lossOf 41 = .ok (.iload_n 1, 1) := by decide +kernel
theorem dX2_lossOf_42 : decode cX2_lossOf 42 = .ok (.invokevirtual 142, 3) := by decide +kernel
theorem dX2_lossOf_45 : decode cX2_lossOf 45 = .ok (.ireturn, 1) := by decide +kernel
theorem dX2_nextDay_0 : decode cX2_nextDay 0 = .ok (.aload_n 0, 1) := by decide +kernel
theorem dX2_nextDay_1 : decode cX2_nextDay 1 = .ok (.getfield 24, 3) := by decide +kernel
theorem dX2_nextDay_4 : decode cX2_nextDay 4 = .ok (.sipush 365, 3) := by decide +kernel
theorem dX2_nextDay_7 : decode cX2_nextDay 7 = .ok (.if_icmp .lt 13, 3) := by decide +kernel
theorem dX2_nextDay_10 : decode cX2_nextDay 10 = .ok (.new 56, 3) := by decide +kernel
theorem dX2_nextDay_13 : decode cX2_nextDay 13 = .ok (.dup, 1) := by decide +kernel
theorem dX2_nextDay_14 : decode cX2_nextDay 14 = .ok (.ldc 149, 2) := by decide +kernel
theorem dX2_nextDay_16 : decode cX2_nextDay 16 = .ok (.invokespecial 60, 3) := by decide +kernel
theorem dX2_nextDay_19 : decode cX2_nextDay 19 = .ok (.athrow, 1) := by decide +kernel
theorem dX2_nextDay_20 : decode cX2_nextDay 20 = .ok (.aload_n 0, 1) := by decide +kernel
theorem dX2_nextDay_21 : decode cX2_nextDay 21 = .ok (.invokevirtual 151, 3) := by decide +kernel
theorem dX2_nextDay_24 : decode cX2_nextDay 24 = .ok (.istore_n 1, 1) := by decide +kernel
theorem dX2_nextDay_25 : decode cX2_nextDay 25 = .ok (.aload_n 0, 1) := by decide +kernel
theorem dX2_nextDay_26 : decode cX2_nextDay 26 = .ok (.invokevirtual 154, 3) := by decide +kernel
theorem dX2_nextDay_29 : decode cX2_nextDay 29 = .ok (.aload_n 0, 1) := by decide +kernel
theorem dX2_nextDay_30 : decode cX2_nextDay 30 = .ok (.invokevirtual 157, 3) := by decide +kernel
theorem dX2_nextDay_33 : decode cX2_nextDay 33 = .ok (.aload_n 0, 1) := by decide +kernel
theorem dX2_nextDay_34 : decode cX2_nextDay 34 = .ok (.invokevirtual 160, 3) := by decide +kernel
theorem dX2_nextDay_37 : decode cX2_nextDay 37 = .ok (.aload_n 0, 1) := by decide +kernel
theorem dX2_nextDay_38 : decode cX2_nextDay 38 = .ok (.aload_n 0, 1) := by decide +kernel
theorem dX2_nextDay_39 : decode cX2_nextDay 39 = .ok (.invokevirtual 163, 3) := by decide +kernel
theorem dX2_nextDay_42 : decode cX2_nextDay 42 = .ok (.invokevirtual 166, 3) := by decide +kernel
theorem dX2_nextDay_45 : decode cX2_nextDay 45 = .ok (.aload_n 0, 1) := by decide +kernel
theorem dX2_nextDay_46 : decode cX2_nextDay 46 = .ok (.invokevirtual 169, 3) := by decide +kernel
theorem dX2_nextDay_49 : decode cX2_nextDay 49 = .ok (.aload_n 0, 1) := by decide +kernel
theorem dX2_nextDay_50 : decode cX2_nextDay 50 = .ok (.invokevirtual 172, 3) := by decide +kernel
theorem dX2_nextDay_53 : decode cX2_nextDay 53 = .ok (.aload_n 0, 1) := by decide +kernel
theorem dX2_nextDay_54 : decode cX2_nextDay 54 = .ok (.dup, 1) := by decide +kernel
theorem dX2_nextDay_55 : decode cX2_nextDay 55 = .ok (.getfield 28, 3) := by decide +kernel
theorem dX2_nextDay_58 : decode cX2_nextDay 58 = .ok (.iload_n 1, 1) := by decide +kernel
theorem dX2_nextDay_59 : decode cX2_nextDay 59 = .ok (.iadd, 1) := by decide +kernel
theorem dX2_nextDay_60 : decode cX2_nextDay 60 = .ok (.putfield 28, 3) := by decide +kernel
theorem dX2_nextDay_63 : decode cX2_nextDay 63 = .ok (.aload_n 0, 1) := by decide +kernel
theorem dX2_nextDay_64 : decode cX2_nextDay 64 = .ok (.dup, 1) := by decide +kernel
theorem dX2_nextDay_65 : decode cX2_nextDay 65 = .ok (.getfield 24, 3) := by decide +kernel
theorem dX2_nextDay_68 : decode cX2_nextDay 68 = .ok (.iconst 1, 1) := by decide +kernel
theorem dX2_nextDay_69 : decode cX2_nextDay 69 = .ok (.iadd, 1) := by decide +kernel
theorem dX2_nextDay_70 : decode cX2_nextDay 70 = .ok (.putfield 24, 3) := by decide +kernel
theorem dX2_nextDay_73 : decode cX2_nextDay 73 = .ok (.iload_n 1, 1) := by decide +kernel
theorem dX2_nextDay_74 : decode cX2_nextDay 74 = .ok (.ireturn, 1) := by decide +kernel
theorem dX2_day_0 : decode cX2_day 0 = .ok (.aload_n 0, 1) := by decide +kernel
theorem dX2_day_1 : decode cX2_day 1 = .ok (.getfield 24, 3) := by decide +kernel
theorem dX2_day_4 : decode cX2_day 4 = .ok (.ireturn, 1) := by decide +kernel
theorem dX2_comeIn_0 : decode cX2_comeIn 0 = .ok (.aload_n 0, 1) := by decide +kernel
theorem dX2_comeIn_1 : decode cX2_comeIn 1 = .ok (.iload_n 1, 1) := by decide +kernel
theorem dX2_comeIn_2 : decode cX2_comeIn 2 = .ok (.invokevirtual 87, 3) := by decide +kernel
theorem dX2_comeIn_5 : decode cX2_comeIn 5 = .ok (.astore_n 2, 1) := by decide +kernel
theorem dX2_comeIn_6 : decode cX2_comeIn 6 = .ok (.aload_n 2, 1) := by decide +kernel
theorem dX2_comeIn_7 : decode cX2_comeIn 7 = .ok (.getfield 175, 3) := by decide +kernel
theorem dX2_comeIn_10 : decode cX2_comeIn 10 = .ok (.astore_n 3, 1) := by decide +kernel
theorem dX2_comeIn_11 : decode cX2_comeIn 11 = .ok (.aload_n 3, 1) := by decide +kernel
theorem dX2_comeIn_12 : decode cX2_comeIn 12 = .ok (.ifnonnull 13, 3) := by decide +kernel
theorem dX2_comeIn_15 : decode cX2_comeIn 15 = .ok (.new 112, 3) := by decide +kernel
theorem dX2_comeIn_18 : decode cX2_comeIn 18 = .ok (.dup, 1) := by decide +kernel
theorem dX2_comeIn_19 : decode cX2_comeIn 19 = .ok (.ldc 178, 2) := by decide +kernel
theorem dX2_comeIn_21 : decode cX2_comeIn 21 = .ok (.invokespecial 116, 3) := by decide +kernel
theorem dX2_comeIn_24 : decode cX2_comeIn 24 = .ok (.athrow, 1) := by decide +kernel
theorem dX2_comeIn_25 : decode cX2_comeIn 25 = .ok (.aload_n 2, 1) := by decide +kernel
theorem dX2_comeIn_26 : decode cX2_comeIn 26 = .ok (.getfield 180, 3) := by decide +kernel
theorem dX2_comeIn_29 : decode cX2_comeIn 29 = .ok (.ifCond .eq 13, 3) := by decide +kernel
theorem dX2_comeIn_32 : decode cX2_comeIn 32 = .ok (.new 56, 3) := by decide +kernel
theorem dX2_comeIn_35 : decode cX2_comeIn 35 = .ok (.dup, 1) := by decide +kernel
theorem dX2_comeIn_36 : decode cX2_comeIn 36 = .ok (.ldc 184, 2) := by decide +kernel
theorem dX2_comeIn_38 : decode cX2_comeIn 38 = .ok (.invokespecial 60, 3) := by decide +kernel
theorem dX2_comeIn_41 : decode cX2_comeIn 41 = .ok (.athrow, 1) := by decide +kernel
theorem dX2_comeIn_42 : decode cX2_comeIn 42 = .ok (.aload_n 2, 1) := by decide +kernel
theorem dX2_comeIn_43 : decode cX2_comeIn 43 = .ok (.iconst 1, 1) := by decide +kernel
theorem dX2_comeIn_44 : decode cX2_comeIn 44 = .ok (.putfield 180, 3) := by decide +kernel
theorem dX2_comeIn_47 : decode cX2_comeIn 47 = .ok (.aload_n 2, 1) := by decide +kernel
theorem dX2_comeIn_48 : decode cX2_comeIn 48 = .ok (.iconst 1, 1) := by decide +kernel
theorem dX2_comeIn_49 : decode cX2_comeIn 49 = .ok (.putfield 186, 3) := by decide +kernel
theorem dX2_comeIn_52 : decode cX2_comeIn 52 = .ok (.aload_n 3, 1) := by decide +kernel
theorem dX2_comeIn_53 : decode cX2_comeIn 53 = .ok (.getfield 121, 3) := by decide +kernel
theorem dX2_comeIn_56 : decode cX2_comeIn 56 = .ok (.ireturn, 1) := by decide +kernel
theorem dX2_leave_0 : decode cX2_leave 0 = .ok (.aload_n 0, 1) := by decide +kernel
theorem dX2_leave_1 : decode cX2_leave 1 = .ok (.iload_n 1, 1) := by decide +kernel
theorem dX2_leave_2 : decode cX2_leave 2 = .ok (.invokevirtual 87, 3) := by decide +kernel
theorem dX2_leave_5 : decode cX2_leave 5 = .ok (.astore_n 2, 1) := by decide +kernel
theorem dX2_leave_6 : decode cX2_leave 6 = .ok (.aload_n 2, 1) := by decide +kernel
theorem dX2_leave_7 : decode cX2_leave 7 = .ok (.getfield 180, 3) := by decide +kernel
theorem dX2_leave_10 : decode cX2_leave 10 = .ok (.ifCond .ne 13, 3) := by decide +kernel
theorem dX2_leave_13 : decode cX2_leave 13 = .ok (.new 56, 3) := by decide +kernel
theorem dX2_leave_16 : decode cX2_leave 16 = .ok (.dup, 1) := by decide +kernel
theorem dX2_leave_17 : decode cX2_leave 17 = .ok (.ldc 189, 2) := by decide +kernel
theorem dX2_leave_19 : decode cX2_leave 19 = .ok (.invokespecial 60, 3) := by decide +kernel
theorem dX2_leave_22 : decode cX2_leave 22 = .ok (.athrow, 1) := by decide +kernel
theorem dX2_leave_23 : decode cX2_leave 23 = .ok (.aload_n 2, 1) := by decide +kernel
theorem dX2_leave_24 : decode cX2_leave 24 = .ok (.iconst 0, 1) := by decide +kernel
theorem dX2_leave_25 : decode cX2_leave 25 = .ok (.putfield 180, 3) := by decide +kernel
theorem dX2_leave_28 : decode cX2_leave 28 = .ok (.aload_n 0, 1) := by decide +kernel
theorem dX2_leave_29 : decode cX2_leave 29 = .ok (.invokevirtual 191, 3) := by decide +kernel
theorem dX2_leave_32 : decode cX2_leave 32 = .ok (.ireturn, 1) := by decide +kernel
theorem dX2_seatOf_0 : decode cX2_seatOf 0 = .ok (.aload_n 0, 1) := by decide +kernel
theorem dX2_seatOf_1 : decode cX2_seatOf 1 = .ok (.iload_n 1, 1) := by decide +kernel
theorem dX2_seatOf_2 : decode cX2_seatOf 2 = .ok (.invokevirtual 87, 3) := by decide +kernel
theorem dX2_seatOf_5 : decode cX2_seatOf 5 = .ok (.getfield 175, 3) := by decide +kernel
theorem dX2_seatOf_8 : decode cX2_seatOf 8 = .ok (.astore_n 2, 1) := by decide +kernel
theorem dX2_seatOf_9 : decode cX2_seatOf 9 = .ok (.aload_n 2, 1) := by decide +kernel
theorem dX2_seatOf_10 : decode cX2_seatOf 10 = .ok (.ifnonnull 7, 3) := by decide +kernel
theorem dX2_seatOf_13 : decode cX2_seatOf 13 = .ok (.iconst (-1), 1) := by decide +kernel
theorem dX2_seatOf_14 : decode cX2_seatOf 14 = .ok (.goto 7, 3) := by decide +kernel
theorem dX2_seatOf_17 : decode cX2_seatOf 17 = .ok (.aload_n 2, 1) := by decide +kernel
theorem dX2_seatOf_18 : decode cX2_seatOf 18 = .ok (.getfield 121, 3) := by decide +kernel
theorem dX2_seatOf_21 : decode cX2_seatOf 21 = .ok (.ireturn, 1) := by decide +kernel
theorem dX2_isIn_0 : decode cX2_isIn 0 = .ok (.aload_n 0, 1) := by decide +kernel
theorem dX2_isIn_1 : decode cX2_isIn 1 = .ok (.iload_n 1, 1) := by decide +kernel
theorem dX2_isIn_2 : decode cX2_isIn 2 = .ok (.invokevirtual 87, 3) := by decide +kernel
theorem dX2_isIn_5 : decode cX2_isIn 5 = .ok (.getfield 180, 3) := by decide +kernel
theorem dX2_isIn_8 : decode cX2_isIn 8 = .ok (.ireturn, 1) := by decide +kernel
theorem dX2_isOpen_0 : decode cX2_isOpen 0 = .ok (.aload_n 0, 1) := by decide +kernel
theorem dX2_isOpen_1 : decode cX2_isOpen 1 = .ok (.iload_n 1, 1) := by decide +kernel
theorem dX2_isOpen_2 : decode cX2_isOpen 2 = .ok (.invokevirtual 70, 3) := by decide +kernel
theorem dX2_isOpen_5 : decode cX2_isOpen 5 = .ok (.getfield 194, 3) := by decide +kernel
theorem dX2_isOpen_8 : decode cX2_isOpen 8 = .ok (.ireturn, 1) := by decide +kernel
theorem dX2_seated_0 : decode cX2_seated 0 = .ok (.aload_n 0, 1) := by decide +kernel
theorem dX2_seated_1 : decode cX2_seated 1 = .ok (.iload_n 2, 1) := by decide +kernel
theorem dX2_seated_2 : decode cX2_seated 2 = .ok (.invokevirtual 70, 3) := by decide +kernel
theorem dX2_seated_5 : decode cX2_seated 5 = .ok (.astore_n 3, 1) := by decide +kernel
theorem dX2_seated_6 : decode cX2_seated 6 = .ok (.iload_n 1, 1) := by decide +kernel
theorem dX2_seated_7 : decode cX2_seated 7 = .ok (.invokestatic 77, 3) := by decide +kernel
theorem dX2_seated_10 : decode cX2_seated 10 = .ok (.aload_n 0, 1) := by decide +kernel
theorem dX2_seated_11 : decode cX2_seated 11 = .ok (.iload_n 1, 1) := by decide +kernel
theorem dX2_seated_12 : decode cX2_seated 12 = .ok (.aload_n 3, 1) := by decide +kernel
theorem dX2_seated_13 : decode cX2_seated 13 = .ok (.invokevirtual 197, 3) := by decide +kernel
theorem dX2_seated_16 : decode cX2_seated 16 = .ok (.ireturn, 1) := by decide +kernel
theorem dX2_pass_0 : decode cX2_pass 0 = .ok (.iload_n 1, 1) := by decide +kernel
theorem dX2_pass_1 : decode cX2_pass 1 = .ok (.iconst 1, 1) := by decide +kernel
theorem dX2_pass_2 : decode cX2_pass 2 = .ok (.if_icmp .lt 9, 3) := by decide +kernel
theorem dX2_pass_5 : decode cX2_pass 5 = .ok (.iload_n 1, 1) := by decide +kernel
theorem dX2_pass_6 : decode cX2_pass 6 = .ok (.bipush 24, 2) := by decide +kernel
theorem dX2_pass_8 : decode cX2_pass 8 = .ok (.if_icmp .le 13, 3) := by decide +kernel
theorem dX2_pass_11 : decode cX2_pass 11 = .ok (.new 41, 3) := by decide +kernel
theorem dX2_pass_14 : decode cX2_pass 14 = .ok (.dup, 1) := by decide +kernel
theorem dX2_pass_15 : decode cX2_pass 15 = .ok (.ldc 201, 2) := by decide +kernel
theorem dX2_pass_17 : decode cX2_pass 17 = .ok (.invokespecial 45, 3) := by decide +kernel
theorem dX2_pass_20 : decode cX2_pass 20 = .ok (.athrow, 1) := by decide +kernel
theorem dX2_pass_21 : decode cX2_pass 21 = .ok (.iconst 0, 1) := by decide +kernel
theorem dX2_pass_22 : decode cX2_pass 22 = .ok (.istore_n 2, 1) := by decide +kernel
theorem dX2_pass_23 : decode cX2_pass 23 = .ok (.iconst 0, 1) := by decide +kernel
theorem dX2_pass_24 : decode cX2_pass 24 = .ok (.istore_n 3, 1) := by decide +kernel
theorem dX2_pass_25 : decode cX2_pass 25 = .ok (.iload_n 3, 1) := by decide +kernel
theorem dX2_pass_26 : decode cX2_pass 26 = .ok (.iload_n 1, 1) := by decide +kernel
theorem dX2_pass_27 : decode cX2_pass 27 = .ok (.if_icmp .ge 49, 3) := by decide +kernel
theorem dX2_pass_30 : decode cX2_pass 30 = .ok (.iconst 0, 1) := by decide +kernel
theorem dX2_pass_31 : decode cX2_pass 31 = .ok (.istore 4, 2) := by decide +kernel
theorem dX2_pass_33 : decode cX2_pass 33 = .ok (.iload 4, 2) := by decide +kernel
theorem dX2_pass_35 : decode cX2_pass 35 = .ok (.aload_n 0, 1) := by decide +kernel
theorem dX2_pass_36 : decode cX2_pass 36 = .ok (.getfield 12, 3) := by decide +kernel
theorem dX2_pass_39 : decode cX2_pass 39 = .ok (.invokevirtual 52, 3) := by decide +kernel
theorem dX2_pass_42 : decode cX2_pass 42 = .ok (.if_icmp .ge 28, 3) := by decide +kernel
theorem dX2_pass_45 : decode cX2_pass 45 = .ok (.iload_n 2, 1) := by decide +kernel
theorem dX2_pass_46 : decode cX2_pass 46 = .ok (.aload_n 0, 1) := by decide +kernel
theorem dX2_pass_47 : decode cX2_pass 47 = .ok (.aload_n 0, 1) := by decide +kernel
theorem dX2_pass_48 : decode cX2_pass 48 = .ok (.getfield 12, 3) := by decide +kernel
theorem dX2_pass_51 : decode cX2_pass 51 = .ok (.iload 4, 2) := by decide +kernel
theorem dX2_pass_53 : decode cX2_pass 53 = .ok (.invokevirtual 129, 3) := by decide +kernel
theorem dX2_pass_56 : decode cX2_pass 56 = .ok (.checkcast 61, 3) := by decide +kernel
theorem dX2_pass_59 : decode cX2_pass 59 = .ok (.invokevirtual 203, 3) := by decide +kernel
theorem dX2_pass_62 : decode cX2_pass 62 = .ok (.iadd, 1) := by decide +kernel
theorem dX2_pass_63 : decode cX2_pass 63 = .ok (.istore_n 2, 1) := by decide +kernel
theorem dX2_pass_64 : decode cX2_pass 64 = .ok (.iinc 4 1, 3) := by decide +kernel
theorem dX2_pass_67 : decode cX2_pass 67 = .ok (.goto (-34), 3) := by decide +kernel
theorem dX2_pass_70 : decode cX2_pass 70 = .ok (.iinc 3 1, 3) := by decide +kernel
theorem dX2_pass_73 : decode cX2_pass 73 = .ok (.goto (-48), 3) := by decide +kernel
theorem dX2_pass_76 : decode cX2_pass 76 = .ok (.aload_n 0, 1) := by decide +kernel
theorem dX2_pass_77 : decode cX2_pass 77 = .ok (.dup, 1) := by decide +kernel
theorem dX2_pass_78 : decode cX2_pass 78 = .ok (.getfield 31, 3) := by decide +kernel
theorem dX2_pass_81 : decode cX2_pass 81 = .ok (.iload_n 2, 1) := by decide +kernel
theorem dX2_pass_82 : decode cX2_pass 82 = .ok (.i2l, 1) := by decide +kernel
theorem dX2_pass_83 : decode cX2_pass 83 = .ok (.ladd, 1) := by decide +kernel
theorem dX2_pass_84 : decode cX2_pass 84 = .ok (.putfield 31, 3) := by decide +kernel
theorem dX2_pass_87 : decode cX2_pass 87 = .ok (.iload_n 2, 1) := by decide +kernel
theorem dX2_pass_88 : decode cX2_pass 88 = .ok (.ireturn, 1) := by decide +kernel
theorem dX2_warmth_0 : decode cX2_warmth 0 = .ok (.aload_n 0, 1) := by decide +kernel
theorem dX2_warmth_1 : decode cX2_warmth 1 = .ok (.iload_n 1, 1) := by decide +kernel
theorem dX2_warmth_2 : decode cX2_warmth 2 = .ok (.invokevirtual 70, 3) := by decide +kernel
theorem dX2_warmth_5 : decode cX2_warmth 5 = .ok (.getfield 207, 3) := by decide +kernel
theorem dX2_warmth_8 : decode cX2_warmth 8 = .ok (.ireturn, 1) := by decide +kernel
theorem dX2_air_0 : decode cX2_air 0 = .ok (.aload_n 0, 1) := by decide +kernel
theorem dX2_air_1 : decode cX2_air 1 = .ok (.iload_n 1, 1) := by decide +kernel
theorem dX2_air_2 : decode cX2_air 2 = .ok (.invokevirtual 70, 3) := by decide +kernel
theorem dX2_air_5 : decode cX2_air 5 = .ok (.getfield 210, 3) := by decide +kernel
theorem dX2_air_8 : decode cX2_air 8 = .ok (.ireturn, 1) := by decide +kernel
theorem dX2_energy_0 : decode cX2_energy 0 = .ok (.aload_n 0, 1) := by decide +kernel
theorem dX2_energy_1 : decode cX2_energy 1 = .ok (.getfield 31, 3) := by decide +kernel
theorem dX2_energy_4 : decode cX2_energy 4 = .ok (.lreturn, 1) := by decide +kernel
theorem dX2_discomfort_0 : decode cX2_discomfort 0 = .ok (.aload_n 0, 1) := by decide +kernel
theorem dX2_discomfort_1 : decode cX2_discomfort 1 = .ok (.getfield 35, 3) := by decide +kernel
theorem dX2_discomfort_4 : decode cX2_discomfort 4 = .ok (.lreturn, 1) := by decide +kernel
theorem dX2_cleaning_0 : decode cX2_cleaning 0 = .ok (.aload_n 0, 1) := by decide +kernel
theorem dX2_cleaning_1 : decode cX2_cleaning 1 = .ok (.getfield 38, 3) := by decide +kernel
theorem dX2_cleaning_4 : decode cX2_cleaning 4 = .ok (.lreturn, 1) := by decide +kernel
theorem dX2_noShows_0 : decode cX2_noShows 0 = .ok (.aload_n 0, 1) := by decide +kernel
theorem dX2_noShows_1 : decode cX2_noShows 1 = .ok (.getfield 28, 3) := by decide +kernel
theorem dX2_noShows_4 : decode cX2_noShows 4 = .ok (.ireturn, 1) := by decide +kernel
theorem dX2_meanStanding_0 : decode cX2_meanStanding 0 = .ok (.aload_n 0, 1) := by decide +kernel
theorem dX2_meanStanding_1 : decode cX2_meanStanding 1 = .ok (.getfield 18, 3) := by decide +kernel
theorem dX2_meanStanding_4 : decode cX2_meanStanding 4 = .ok (.invokevirtual 213, 3) := by decide +kernel
theorem dX2_meanStanding_7 : decode cX2_meanStanding 7 = .ok (.ifCond .eq 13, 3) := by decide +kernel
theorem dX2_meanStanding_10 : decode cX2_meanStanding 10 = .ok (.new 217, 3) := by decide +kernel
theorem dX2_meanStanding_13 : decode cX2_meanStanding 13 = .ok (.dup, 1) := by decide +kernel
theorem dX2_meanStanding_14 : decode cX2_meanStanding 14 = .ok (.ldc 219, 2) := by decide +kernel
theorem dX2_meanStanding_16 : decode cX2_meanStanding 16 = .ok (.invokespecial 221, 3) := by decide +kernel
theorem dX2_meanStanding_19 : decode cX2_meanStanding 19 = .ok (.athrow, 1) := by decide +kernel
theorem dX2_meanStanding_20 : decode cX2_meanStanding 20 = .ok (.iconst 0, 1) := by decide +kernel
theorem dX2_meanStanding_21 : decode cX2_meanStanding 21 = .ok (.istore_n 1, 1) := by decide +kernel
theorem dX2_meanStanding_22 : decode cX2_meanStanding 22 = .ok (.iconst 0, 1) := by decide +kernel
theorem dX2_meanStanding_23 : decode cX2_meanStanding 23 = .ok (.istore_n 2, 1) := by decide +kernel
theorem dX2_meanStanding_24 : decode cX2_meanStanding 24 = .ok (.iload_n 2, 1) := by decide +kernel
theorem dX2_meanStanding_25 : decode cX2_meanStanding 25 = .ok (.aload_n 0, 1) := by decide +kernel
theorem dX2_meanStanding_26 : decode cX2_meanStanding 26 = .ok (.getfield 18, 3) := by decide +kernel
theorem dX2_meanStanding_29 : decode cX2_meanStanding 29 = .ok (.invokevirtual 52, 3) := by decide +kernel
theorem dX2_meanStanding_32 : decode cX2_meanStanding 32 = .ok (.if_icmp .ge 26, 3) := by decide +kernel
theorem dX2_meanStanding_35 : decode cX2_meanStanding 35 = .ok (.iload_n 1, 1) := by decide +kernel
theorem dX2_meanStanding_36 : decode cX2_meanStanding 36 = .ok (.aload_n 0, 1) := by decide +kernel
theorem dX2_meanStanding_37 : decode cX2_meanStanding 37 = .ok (.getfield 18, 3) := by decide +kernel
theorem dX2_meanStanding_40 : decode cX2_meanStanding 40 = .ok (.iload_n 2, 1) := by decide +kernel
theorem dX2_meanStanding_41 : decode cX2_meanStanding 41 = .ok (.invokevirtual 129, 3) := by decide +kernel
theorem dX2_meanStanding_44 : decode cX2_meanStanding 44 = .ok (.checkcast 82, 3) := by decide +kernel
theorem dX2_meanStanding_47 : decode cX2_meanStanding 47 = .ok (.getfield 91, 3) := by decide +kernel
theorem dX2_meanStanding_50 : decode cX2_meanStanding 50 = .ok (.iadd, 1) := by decide +kernel
theorem dX2_meanStanding_51 : decode cX2_meanStanding 51 = .ok (.istore_n 1, 1) := by decide +kernel
theorem dX2_meanStanding_52 : decode cX2_meanStanding 52 = .ok (.iinc 2 1, 3) := by decide +kernel
theorem dX2_meanStanding_55 : decode cX2_meanStanding 55 = .ok (.goto (-31), 3) := by decide +kernel
theorem dX2_meanStanding_58 : decode cX2_meanStanding 58 = .ok (.iload_n 1, 1) := by decide +kernel
theorem dX2_meanStanding_59 : decode cX2_meanStanding 59 = .ok (.i2d, 1) := by decide +kernel
theorem dX2_meanStanding_60 : decode cX2_meanStanding 60 = .ok (.aload_n 0, 1) := by decide +kernel
theorem dX2_meanStanding_61 : decode cX2_meanStanding 61 = .ok (.getfield 18, 3) := by decide +kernel
theorem dX2_meanStanding_64 : decode cX2_meanStanding 64 = .ok (.invokevirtual 52, 3) := by decide +kernel
theorem dX2_meanStanding_67 : decode cX2_meanStanding 67 = .ok (.i2d, 1) := by decide +kernel
theorem dX2_meanStanding_68 : decode cX2_meanStanding 68 = .ok (.ddiv, 1) := by decide +kernel
theorem dX2_meanStanding_69 : decode cX2_meanStanding 69 = .ok (.dreturn, 1) := by decide +kernel
theorem dX2_givenShare_0 : decode cX2_givenShare 0 = .ok (.iconst 0, 1) := by decide +kernel
theorem dX2_givenShare_1 : decode cX2_givenShare 1 = .ok (.istore_n 1, 1) := by decide +kernel
theorem dX2_givenShare_2 : decode cX2_givenShare 2 = .ok (.iconst 0, 1) := by decide +kernel
theorem dX2_givenShare_3 : decode cX2_givenShare 3 = .ok (.istore_n 2, 1) := by decide +kernel
theorem dX2_givenShare_4 : decode cX2_givenShare 4 = .ok (.iconst 0, 1) := by decide +kernel
theorem dX2_givenShare_5 : decode cX2_givenShare 5 = .ok (.istore_n 3, 1) := by decide +kernel
theorem dX2_givenShare_6 : decode cX2_givenShare 6 = .ok (.iload_n 3, 1) := by decide +kernel
theorem dX2_givenShare_7 : decode cX2_givenShare 7 = .ok (.aload_n 0, 1) := by decide +kernel
theorem dX2_givenShare_8 : decode cX2_givenShare 8 = .ok (.getfield 12, 3) := by decide +kernel
theorem dX2_givenShare_11 : decode cX2_givenShare 11 = .ok (.invokevirtual 52, 3) := by decide +kernel
theorem dX2_givenShare_14 : decode cX2_givenShare 14 = .ok (.if_icmp .ge 51, 3) := by decide +kernel
theorem dX2_givenShare_17 : decode cX2_givenShare 17 = .ok (.aload_n 0, 1) := by decide +kernel
theorem dX2_givenShare_18 : decode cX2_givenShare 18 = .ok (.getfield 12, 3) := by decide +kernel
theorem dX2_givenShare_21 : decode cX2_givenShare 21 = .ok (.iload_n 3, 1) := by decide +kernel
theorem dX2_givenShare_22 : decode cX2_givenShare 22 = .ok (.invokevirtual 129, 3) := by decide +kernel
theorem dX2_givenShare_25 : decode cX2_givenShare 25 = .ok (.checkcast 61, 3) := by decide +kernel
theorem dX2_givenShare_28 : decode cX2_givenShare 28 = .ok (.astore 4, 2) := by decide +kernel
theorem dX2_givenShare_30 : decode cX2_givenShare 30 = .ok (.iload_n 1, 1) := by decide +kernel
theorem dX2_givenShare_31 : decode cX2_givenShare 31 = .ok (.aload_n 0, 1) := by decide +kernel
theorem dX2_givenShare_32 : decode cX2_givenShare 32 = .ok (.aload 4, 2) := by decide +kernel
theorem dX2_givenShare_34 : decode cX2_givenShare 34 = .ok (.invokevirtual 222, 3) := by decide +kernel
theorem dX2_givenShare_37 : decode cX2_givenShare 37 = .ok (.iadd, 1) := by decide +kernel
theorem dX2_givenShare_38 : decode cX2_givenShare 38 = .ok (.istore_n 1, 1) := by decide +kernel
theorem dX2_givenShare_39 : decode cX2_givenShare 39 = .ok (.iload_n 2, 1) := by decide +kernel
theorem dX2_givenShare_40 : decode cX2_givenShare 40 = .ok (.aload 4, 2) := by decide +kernel
theorem dX2_givenShare_42 : decode cX2_givenShare 42 = .ok (.getfield 194, 3) := by decide +kernel
theorem dX2_givenShare_45 : decode cX2_givenShare 45 = .ok (.ifCond .eq 11, 3) := by decide +kernel
theorem dX2_givenShare_48 : decode cX2_givenShare 48 = .ok (.aload 4, 2) := by decide +kernel
theorem dX2_givenShare_50 : decode cX2_givenShare 50 = .ok (.getfield 225, 3) := by decide +kernel
theorem dX2_givenShare_53 : decode cX2_givenShare 53 = .ok (.goto 4, 3) := by decide +kernel
theorem dX2_givenShare_56 : decode cX2_givenShare 56 = .ok (.iconst 0, 1) := by decide +kernel
theorem dX2_givenShare_57 : decode cX2_givenShare 57 = .ok (.iadd, 1) := by decide +kernel
theorem dX2_givenShare_58 : decode cX2_givenShare 58 = .ok (.istore_n 2, 1) := by decide +kernel
theorem dX2_givenShare_59 : decode cX2_givenShare 59 = .ok (.iinc 3 1, 3) := by decide +kernel
theorem dX2_givenShare_62 : decode cX2_givenShare 62 = .ok (.goto (-56), 3) := by decide +kernel
theorem dX2_givenShare_65 : decode cX2_givenShare 65 = .ok (.iload_n 2, 1) := by decide +kernel
theorem dX2_givenShare_66 : decode cX2_givenShare 66 = .ok (.ifCond .ne 13, 3) := by decide +kernel
theorem dX2_givenShare_69 : decode cX2_givenShare 69 = .ok (.new 217, 3) := by decide +kernel
theorem dX2_givenShare_72 : decode cX2_givenShare 72 = .ok (.dup, 1) := by decide +kernel
theorem dX2_givenShare_73 : decode cX2_givenShare 73 = .ok (.ldc 228, 2) := by decide +kernel
theorem dX2_givenShare_75 : decode cX2_givenShare 75 = .ok (.invokespecial 221, 3) := by decide +kernel
theorem dX2_givenShare_78 : decode cX2_givenShare 78 = .ok (.athrow, 1) := by decide +kernel
theorem dX2_givenShare_79 : decode cX2_givenShare 79 = .ok (.iload_n 1, 1) := by decide +kernel
theorem dX2_givenShare_80 : decode cX2_givenShare 80 = .ok (.i2f, 1) := by decide +kernel
theorem dX2_givenShare_81 : decode cX2_givenShare 81 = .ok (.iload_n 2, 1) := by decide +kernel
theorem dX2_givenShare_82 : decode cX2_givenShare 82 = .ok (.i2f, 1) := by decide +kernel
theorem dX2_givenShare_83 : decode cX2_givenShare 83 = .ok (.fdiv, 1) := by decide +kernel
theorem dX2_givenShare_84 : decode cX2_givenShare 84 = .ok (.freturn, 1) := by decide +kernel
theorem dX2_isSound_0 : decode cX2_isSound 0 = .ok (.aload_n 0, 1) := by decide +kernel
theorem dX2_isSound_1 : decode cX2_isSound 1 = .ok (.invokevirtual 163, 3) := by decide +kernel
theorem dX2_isSound_4 : decode cX2_isSound 4 = .ok (.aload_n 0, 1) := by decide +kernel
theorem dX2_isSound_5 : decode cX2_isSound 5 = .ok (.invokevirtual 230, 3) := by decide +kernel
theorem dX2_isSound_8 : decode cX2_isSound 8 = .ok (.if_icmp .ne 21, 3) := by decide +kernel
theorem dX2_isSound_11 : decode cX2_isSound 11 = .ok (.aload_n 0, 1) := by decide +kernel
theorem dX2_isSound_12 : decode cX2_isSound 12 = .ok (.invokevirtual 233, 3) := by decide +kernel
theorem dX2_isSound_15 : decode cX2_isSound 15 = .ok (.ifCond .eq 14, 3) := by decide +kernel
theorem dX2_isSound_18 : decode cX2_isSound 18 = .ok (.aload_n 0, 1) := by decide +kernel
theorem dX2_isSound_19 : decode cX2_isSound 19 = .ok (.invokevirtual 236, 3) := by decide +kernel
theorem dX2_isSound_22 : decode cX2_isSound 22 = .ok (.ifCond .eq 7, 3) := by decide +kernel
theorem dX2_isSound_25 : decode cX2_isSound 25 = .ok (.iconst 1, 1) := by decide +kernel
theorem dX2_isSound_26 : decode cX2_isSound 26 = .ok (.goto 4, 3) := by decide +kernel
theorem dX2_isSound_29 : decode cX2_isSound 29 = .ok (.iconst 0, 1) := by decide +kernel
theorem dX2_isSound_30 : decode cX2_isSound 30 = .ok (.ireturn, 1) := by decide +kernel
theorem dX2_existingFloor_0 : decode cX2_existingFloor 0 = .ok (.iload_n 1, 1) := by decide +kernel
theorem dX2_existingFloor_1 : decode cX2_existingFloor 1 = .ok (.ifCond .lt 14, 3) := by decide +kernel
theorem dX2_existingFloor_4 : decode cX2_existingFloor 4 = .ok (.iload_n 1, 1) := by decide +kernel
theorem dX2_existingFloor_5 : decode cX2_existingFloor 5 = .ok (.aload_n 0, 1) := by decide +kernel
theorem dX2_existingFloor_6 : decode cX2_existingFloor 6 = .ok (.getfield 12, 3) := by decide +kernel
theorem dX2_existingFloor_9 : decode cX2_existingFloor 9 = .ok (.invokevirtual 52, 3) := by decide +kernel
theorem dX2_existingFloor_12 : decode cX2_existingFloor 12 = .ok (.if_icmp .lt 13, 3) := by decide +kernel
theorem dX2_existingFloor_15 : decode cX2_existingFloor 15 = .ok (.new 124, 3) := by decide +kernel
theorem dX2_existingFloor_18 : decode cX2_existingFloor 18 = .ok (.dup, 1) := by decide +kernel
theorem dX2_existingFloor_19 : decode cX2_existingFloor 19 = .ok (.ldc 239, 2) := by decide +kernel
theorem dX2_existingFloor_21 : decode cX2_existingFloor 21 = .ok (.invokespecial 128, 3) := by decide +kernel
theorem dX2_existingFloor_24 : decode cX2_existingFloor 24 = .ok (.athrow, 1) := by decide +kernel
theorem dX2_existingFloor_25 : decode cX2_existingFloor 25 = .ok (.aload_n 0, 1) := by decide +kernel
theorem dX2_existingFloor_26 : decode cX2_existingFloor 26 = .ok (.getfield 12, 3) := by decide +kernel
theorem dX2_existingFloor_29 : decode cX2_existingFloor 29 = .ok (.iload_n 1, 1) := by decide +kernel
theorem dX2_existingFloor_30 : decode cX2_existingFloor 30 = .ok (.invokevirtual 129, 3) := by decide +kernel
theorem dX2_existingFloor_33 : decode cX2_existingFloor 33 = .ok (.checkcast 61, 3) := by decide +kernel
theorem dX2_existingFloor_36 : decode cX2_existingFloor 36 = .ok (.areturn, 1) := by decide +kernel
theorem dX2_existingPerson_0 : decode cX2_existingPerson 0 = .ok (.iload_n 1, 1) := by decide +kernel
theorem dX2_existingPerson_1 : decode cX2_existingPerson 1 = .ok (.ifCond .lt 14, 3) := by decide +kernel
theorem dX2_existingPerson_4 : decode cX2_existingPerson 4 = .ok (.iload_n 1, 1) := by decide +kernel
theorem dX2_existingPerson_5 : decode cX2_existingPerson 5 = .ok (.aload_n 0, 1) := by decide +kernel
theorem dX2_existingPerson_6 : decode cX2_existingPerson 6 = .ok (.getfield 18, 3) := by decide +kernel
theorem dX2_existingPerson_9 : decode cX2_existingPerson 9 = .ok (.invokevirtual 52, 3) := by decide +kernel
theorem dX2_existingPerson_12 : decode cX2_existingPerson 12 = .ok (.if_icmp .lt 13, 3) := by decide +kernel
theorem dX2_existingPerson_15 : decode cX2_existingPerson 15 = .ok (.new 112, 3) := by decide +kernel
theorem dX2_existingPerson_18 : decode cX2_existingPerson 18 = .ok (.dup, 1) := by decide +kernel
theorem dX2_existingPerson_19 : decode cX2_existingPerson 19 = .ok (.ldc 241, 2) := by decide +kernel
theorem dX2_existingPerson_21 : decode cX2_existingPerson 21 = .ok (.invokespecial 116, 3) := by decide +kernel
theorem dX2_existingPerson_24 : decode cX2_existingPerson 24 = .ok (.athrow, 1) := by decide +kernel
theorem dX2_existingPerson_25 : decode cX2_existingPerson 25 = .ok (.aload_n 0, 1) := by decide +kernel
theorem dX2_existingPerson_26 : decode cX2_existingPerson 26 = .ok (.getfield 18, 3) := by decide +kernel
theorem dX2_existingPerson_29 : decode cX2_existingPerson 29 = .ok (.iload_n 1, 1) := by decide +kernel
theorem dX2_existingPerson_30 : decode cX2_existingPerson 30 = .ok (.invokevirtual 129, 3) := by decide +kernel
theorem dX2_existingPerson_33 : decode cX2_existingPerson 33 = .ok (.checkcast 82, 3) := by decide +kernel
theorem dX2_existingPerson_36 : decode cX2_existingPerson 36 = .ok (.areturn, 1) := by decide +kernel
theorem dX2_checkCost_0 : decode cX2_checkCost 0 = .ok (.iload_n 0, 1) := by decide +kernel
theorem dX2_checkCost_1 : decode cX2_checkCost 1 = .ok (.ifCond .lt 9, 3) := by decide +kernel
theorem dX2_checkCost_4 : decode cX2_checkCost 4 = .ok (.iload_n 0, 1) := by decide +kernel
theorem dX2_checkCost_5 : decode cX2_checkCost 5 = .ok (.bipush 99, 2) := by decide +kernel
theorem dX2_checkCost_7 : decode cX2_checkCost 7 = .ok (.if_icmp .le 13, 3) := by decide +kernel
theorem dX2_checkCost_10 : decode cX2_checkCost 10 = .ok (.new 41, 3) := by decide +kernel
theorem dX2_checkCost_13 : decode cX2_checkCost 13 = .ok (.dup, 1) := by decide +kernel
theorem dX2_checkCost_14 : decode cX2_checkCost 14 = .ok (.ldc 243, 2) := by decide +kernel
theorem dX2_checkCost_16 : decode cX2_checkCost 16 = .ok (.invokespecial 45, 3) := by decide +kernel
theorem dX2_checkCost_19 : decode cX2_checkCost 19 = .ok (.athrow, 1) := by decide +kernel
theorem dX2_checkCost_20 : decode cX2_checkCost 20 = .ok (.return_, 1) := by decide +kernel
theorem dX2_checkTeam_0 : decode cX2_checkTeam 0 = .ok (.iload_n 0, 1) := by decide +kernel
theorem dX2_checkTeam_1 : decode cX2_checkTeam 1 = .ok (.ifCond .lt 8, 3) := by decide +kernel
theorem dX2_checkTeam_4 : decode cX2_checkTeam 4 = .ok (.iload_n 0, 1) := by decide +kernel
theorem dX2_checkTeam_5 : decode cX2_checkTeam 5 = .ok (.iconst 4, 1) := by decide +kernel
theorem dX2_checkTeam_6 : decode cX2_checkTeam 6 = .ok (.if_icmp .lt 13, 3) := by decide +kernel
theorem dX2_checkTeam_9 : decode cX2_checkTeam 9 = .ok (.new 41, 3) := by decide +kernel
theorem dX2_checkTeam_12 : decode cX2_checkTeam 12 = .ok (.dup, 1) := by decide +kernel
theorem dX2_checkTeam_13 : decode cX2_checkTeam 13 = .ok (.ldc 245, 2) := by decide +kernel
theorem dX2_checkTeam_15 : decode cX2_checkTeam 15 = .ok (.invokespecial 45, 3) := by decide +kernel
theorem dX2_checkTeam_18 : decode cX2_checkTeam 18 = .ok (.athrow, 1) := by decide +kernel
theorem dX2_checkTeam_19 : decode cX2_checkTeam 19 = .ok (.return_, 1) := by decide +kernel
theorem dX2_removeBooking_0 : decode cX2_removeBooking 0 = .ok (.iconst 0, 1) := by decide +kernel
theorem dX2_removeBooking_1 : decode cX2_removeBooking 1 = .ok (.istore_n 2, 1) := by decide +kernel
theorem dX2_removeBooking_2 : decode cX2_removeBooking 2 = .ok (.iload_n 2, 1) := by decide +kernel
theorem dX2_removeBooking_3 : decode cX2_removeBooking 3 = .ok (.aload_n 0, 1) := by decide +kernel
theorem dX2_removeBooking_4 : decode cX2_removeBooking 4 = .ok (.getfield 21, 3) := by decide +kernel
theorem dX2_removeBooking_7 : decode cX2_removeBooking 7 = .ok (.invokevirtual 52, 3) := by decide +kernel
theorem dX2_removeBooking_10 : decode cX2_removeBooking 10 = .ok (.if_icmp .ge 31, 3) := by decide +kernel
theorem dX2_removeBooking_13 : decode cX2_removeBooking 13 = .ok (.aload_n 0, 1) := by decide +kernel
theorem dX2_removeBooking_14 : decode cX2_removeBooking 14 = .ok (.getfield 21, 3) := by decide +kernel
theorem dX2_removeBooking_17 : decode cX2_removeBooking 17 = .ok (.iload_n 2, 1) := by decide +kernel
theorem dX2_removeBooking_18 : decode cX2_removeBooking 18 = .ok (.invokevirtual 129, 3) := by decide +kernel
theorem dX2_removeBooking_21 : decode cX2_removeBooking 21 = .ok (.aload_n 1, 1) := by decide +kernel
theorem dX2_removeBooking_22 : decode cX2_removeBooking 22 = .ok (.if_acmp .ne 13, 3) := by decide +kernel
theorem dX2_removeBooking_25 : decode cX2_removeBooking 25 = .ok (.aload_n 0, 1) := by decide +kernel
theorem dX2_removeBooking_26 : decode cX2_removeBooking 26 = .ok (.getfield 21, 3) := by decide +kernel
theorem dX2_removeBooking_29 : decode cX2_removeBooking 29 = .ok (.iload_n 2, 1) := by decide +kernel
theorem dX2_removeBooking_30 : decode cX2_removeBooking 30 = .ok (.invokevirtual 247, 3) := by decide +kernel
theorem dX2_removeBooking_33 : decode cX2_removeBooking 33 = .ok (.pop, 1) := by decide +kernel
theorem dX2_removeBooking_34 : decode cX2_removeBooking 34 = .ok (.return_, 1) := by decide +kernel
theorem dX2_removeBooking_35 : decode cX2_removeBooking 35 = .ok (.iinc 2 1, 3) := by decide +kernel
theorem dX2_removeBooking_38 : decode cX2_removeBooking 38 = .ok (.goto (-36), 3) := by decide +kernel
theorem dX2_removeBooking_41 : decode cX2_removeBooking 41 = .ok (.return_, 1) := by decide +kernel
theorem dX2_allFloors_0 : decode cX2_allFloors 0 = .ok (.iconst 1, 1) := by decide +kernel
theorem dX2_allFloors_1 : decode cX2_allFloors 1 = .ok (.aload_n 0, 1) := by decide +kernel
theorem dX2_allFloors_2 : decode cX2_allFloors 2 = .ok (.getfield 12, 3) := by decide +kernel
theorem dX2_allFloors_5 : decode cX2_allFloors 5 = .ok (.invokevirtual 52, 3) := by decide +kernel
theorem dX2_allFloors_8 : decode cX2_allFloors 8 = .ok (.ishl, 1) := by decide +kernel
theorem dX2_allFloors_9 : decode cX2_allFloors 9 = .ok (.iconst 1, 1) := by decide +kernel
theorem dX2_allFloors_10 : decode cX2_allFloors 10 = .ok (.isub, 1) := by decide +kernel
theorem dX2_allFloors_11 : decode cX2_allFloors 11 = .ok (.ireturn, 1) := by decide +kernel
theorem dX2_seatsOfSet_0 : decode cX2_seatsOfSet 0 = .ok (.iconst 0, 1) := by decide +kernel
theorem dX2_seatsOfSet_1 : decode cX2_seatsOfSet 1 = .ok (.istore_n 2, 1) := by decide +kernel
theorem dX2_seatsOfSet_2 : decode cX2_seatsOfSet 2 = .ok (.iconst 0, 1) := by decide +kernel
theorem dX2_seatsOfSet_3 : decode cX2_seatsOfSet 3 = .ok (.istore_n 3, 1) := by decide +kernel
theorem dX2_seatsOfSet_4 : decode cX2_seatsOfSet 4 = .ok (.iload_n 3, 1) := by decide +kernel
theorem dX2_seatsOfSet_5 : decode cX2_seatsOfSet 5 = .ok (.aload_n 0, 1) := by decide +kernel
theorem dX2_seatsOfSet_6 : decode cX2_seatsOfSet 6 = .ok (.getfield 12, 3) := by decide +kernel
theorem dX2_seatsOfSet_9 : decode cX2_seatsOfSet 9 = .ok (.invokevirtual 52, 3) := by decide +kernel
theorem dX2_seatsOfSet_12 : decode cX2_seatsOfSet 12 = .ok (.if_icmp .ge 43, 3) := by decide +kernel
theorem dX2_seatsOfSet_15 : decode cX2_seatsOfSet 15 = .ok (.aload_n 0, 1) := by decide +kernel
theorem dX2_seatsOfSet_16 : decode cX2_seatsOfSet 16 = .ok (.getfield 12, 3) := by decide +kernel
theorem dX2_seatsOfSet_19 : decode cX2_seatsOfSet 19 = .ok (.iload_n 3, 1) := by decide +kernel
theorem dX2_seatsOfSet_20 : decode cX2_seatsOfSet 20 = .ok (.invokevirtual 129, 3) := by decide +kernel
theorem dX2_seatsOfSet_23 : decode cX2_seatsOfSet 23 = .ok (.checkcast 61, 3) := by decide +kernel
theorem dX2_seatsOfSet_26 : decode cX2_seatsOfSet 26 = .ok (.astore 4, 2) := by decide +kernel
theorem dX2_seatsOfSet_28 : decode cX2_seatsOfSet 28 = .ok (.iload_n 2, 1) := by decide +kernel
theorem dX2_seatsOfSet_29 : decode cX2_seatsOfSet 29 = .ok (.aload 4, 2) := by decide +kernel
theorem dX2_seatsOfSet_31 : decode cX2_seatsOfSet 31 = .ok (.iload_n 1, 1) := by decide +kernel
theorem dX2_seatsOfSet_32 : decode cX2_seatsOfSet 32 = .ok (.invokevirtual 250, 3) := by decide +kernel
theorem dX2_seatsOfSet_35 : decode cX2_seatsOfSet 35 = .ok (.ifCond .eq 11, 3) := by decide +kernel
theorem dX2_seatsOfSet_38 : decode cX2_seatsOfSet 38 = .ok (.aload 4, 2) := by decide +kernel
theorem dX2_seatsOfSet_40 : decode cX2_seatsOfSet 40 = .ok (.getfield 225, 3) := by decide +kernel
theorem dX2_seatsOfSet_43 : decode cX2_seatsOfSet 43 = .ok (.goto 4, 3) := by decide +kernel
theorem dX2_seatsOfSet_46 : decode cX2_seatsOfSet 46 = .ok (.iconst 0, 1) := by decide +kernel
theorem dX2_seatsOfSet_47 : decode cX2_seatsOfSet 47 = .ok (.iadd, 1) := by decide +kernel
theorem dX2_seatsOfSet_48 : decode cX2_seatsOfSet 48 = .ok (.istore_n 2, 1) := by decide +kernel
theorem dX2_seatsOfSet_49 : decode cX2_seatsOfSet 49 = .ok (.iinc 3 1, 3) := by decide +kernel
theorem dX2_seatsOfSet_52 : decode cX2_seatsOfSet 52 = .ok (.goto (-48), 3) := by decide +kernel
theorem dX2_seatsOfSet_55 : decode cX2_seatsOfSet 55 = .ok (.iload_n 2, 1) := by decide +kernel
theorem dX2_seatsOfSet_56 : decode cX2_seatsOfSet 56 = .ok (.ireturn, 1) := by decide +kernel
theorem dX2_fits_0 : decode cX2_fits 0 = .ok (.aload_n 0, 1) := by decide +kernel
theorem dX2_fits_1 : decode cX2_fits 1 = .ok (.iload_n 1, 1) := by decide +kernel
theorem dX2_fits_2 : decode cX2_fits 2 = .ok (.invokevirtual 103, 3) := by decide +kernel
theorem dX2_fits_5 : decode cX2_fits 5 = .ok (.aload_n 0, 1) := by decide +kernel
theorem dX2_fits_6 : decode cX2_fits 6 = .ok (.getfield 21, 3) := by decide +kernel
theorem dX2_fits_9 : decode cX2_fits 9 = .ok (.invokevirtual 52, 3) := by decide +kernel
theorem dX2_fits_12 : decode cX2_fits 12 = .ok (.if_icmp .lt 7, 3) := by decide +kernel
theorem dX2_fits_15 : decode cX2_fits 15 = .ok (.iconst 1, 1) := by decide +kernel
theorem dX2_fits_16 : decode cX2_fits 16 = .ok (.goto 4, 3) := by decide +kernel
theorem dX2_fits_19 : decode cX2_fits 19 = .ok (.iconst 0, 1) := by decide +kernel
theorem dX2_fits_20 : decode cX2_fits 20 = .ok (.ireturn, 1) := by decide +kernel
theorem dX2_lossOfSet_0 : decode cX2_lossOfSet 0 = .ok (.iconst 0, 1) := by decide +kernel
theorem dX2_lossOfSet_1 : decode cX2_lossOfSet 1 = .ok (.istore_n 2, 1) := by decide +kernel
theorem dX2_lossOfSet_2 : decode cX2_lossOfSet 2 = .ok (.iconst 0, 1) := by decide +kernel
theorem dX2_lossOfSet_3 : decode cX2_lossOfSet 3 = .ok (.istore_n 3, 1) := by decide +kernel
theorem dX2_lossOfSet_4 : decode cX2_lossOfSet 4 = .ok (.iload_n 3, 1) := by decide +kernel
theorem dX2_lossOfSet_5 : decode cX2_lossOfSet 5 = .ok (.aload_n 0, 1) := by decide +kernel
theorem dX2_lossOfSet_6 : decode cX2_lossOfSet 6 = .ok (.getfield 12, 3) := by decide +kernel
theorem dX2_lossOfSet_9 : decode cX2_lossOfSet 9 = .ok (.invokevirtual 52, 3) := by decide +kernel
theorem dX2_lossOfSet_12 : decode cX2_lossOfSet 12 = .ok (.if_icmp .ge 43, 3) := by decide +kernel
theorem dX2_lossOfSet_15 : decode cX2_lossOfSet 15 = .ok (.aload_n 0, 1) := by decide +kernel
theorem dX2_lossOfSet_16 : decode cX2_lossOfSet 16 = .ok (.getfield 12, 3) := by decide +kernel
theorem dX2_lossOfSet_19 : decode cX2_lossOfSet 19 = .ok (.iload_n 3, 1) := by decide +kernel
theorem dX2_lossOfSet_20 : decode cX2_lossOfSet 20 = .ok (.invokevirtual 129, 3) := by decide +kernel
theorem dX2_lossOfSet_23 : decode cX2_lossOfSet 23 = .ok (.checkcast 61, 3) := by decide +kernel
theorem dX2_lossOfSet_26 : decode cX2_lossOfSet 26 = .ok (.astore 4, 2) := by decide +kernel
theorem dX2_lossOfSet_28 : decode cX2_lossOfSet 28 = .ok (.iload_n 2, 1) := by decide +kernel
theorem dX2_lossOfSet_29 : decode cX2_lossOfSet 29 = .ok (.aload 4, 2) := by decide +kernel
theorem dX2_lossOfSet_31 : decode cX2_lossOfSet 31 = .ok (.iload_n 1, 1) := by decide +kernel
theorem dX2_lossOfSet_32 : decode cX2_lossOfSet 32 = .ok (.invokevirtual 250, 3) := by decide +kernel
theorem dX2_lossOfSet_35 : decode cX2_lossOfSet 35 = .ok (.ifCond .eq 11, 3) := by decide +kernel
theorem dX2_lossOfSet_38 : decode cX2_lossOfSet 38 = .ok (.aload 4, 2) := by decide +kernel
theorem dX2_lossOfSet_40 : decode cX2_lossOfSet 40 = .ok (.getfield 74, 3) := by decide +kernel
theorem dX2_lossOfSet_43 : decode cX2_lossOfSet 43 = .ok (.goto 4, 3) := by decide +kernel
theorem dX2_lossOfSet_46 : decode cX2_lossOfSet 46 = .ok (.iconst 0, 1) := by decide +kernel
theorem dX2_lossOfSet_47 : decode cX2_lossOfSet 47 = .ok (.iadd, 1) := by decide +kernel
theorem dX2_lossOfSet_48 : decode cX2_lossOfSet 48 = .ok (.istore_n 2, 1) := by decide +kernel
theorem dX2_lossOfSet_49 : decode cX2_lossOfSet 49 = .ok (.iinc 3 1, 3) := by decide +kernel
theorem dX2_lossOfSet_52 : decode cX2_lossOfSet 52 = .ok (.goto (-48), 3) := by decide +kernel
theorem dX2_lossOfSet_55 : decode cX2_lossOfSet 55 = .ok (.iconst 0, 1) := by decide +kernel
theorem dX2_lossOfSet_56 : decode cX2_lossOfSet 56 = .ok (.istore_n 3, 1) := by decide +kernel
theorem dX2_lossOfSet_57 : decode cX2_lossOfSet 57 = .ok (.iload_n 3, 1) := by decide +kernel
theorem dX2_lossOfSet_58 : decode cX2_lossOfSet 58 = .ok (.aload_n 0, 1) := by decide +kernel
theorem dX2_lossOfSet_59 : decode cX2_lossOfSet 59 = .ok (.getfield 21, 3) := by decide +kernel
theorem dX2_lossOfSet_62 : decode cX2_lossOfSet 62 = .ok (.invokevirtual 52, 3) := by decide +kernel
theorem dX2_lossOfSet_65 : decode cX2_lossOfSet 65 = .ok (.if_icmp .ge 46, 3) := by decide +kernel
theorem dX2_lossOfSet_68 : decode cX2_lossOfSet 68 = .ok (.aload_n 0, 1) := by decide +kernel
theorem dX2_lossOfSet_69 : decode cX2_lossOfSet 69 = .ok (.getfield 21, 3) := by decide +kernel
theorem dX2_lossOfSet_72 : decode cX2_lossOfSet 72 = .ok (.iload_n 3, 1) := by decide +kernel
theorem dX2_lossOfSet_73 : decode cX2_lossOfSet 73 = .ok (.invokevirtual 129, 3) := by decide +kernel
theorem dX2_lossOfSet_76 : decode cX2_lossOfSet 76 = .ok (.checkcast 82, 3) := by decide +kernel
theorem dX2_lossOfSet_79 : decode cX2_lossOfSet 79 = .ok (.getfield 94, 3) := by decide +kernel
theorem dX2_lossOfSet_82 : decode cX2_lossOfSet 82 = .ok (.astore 4, 2) := by decide +kernel
theorem dX2_lossOfSet_84 : decode cX2_lossOfSet 84 = .ok (.iload_n 2, 1) := by decide +kernel
theorem dX2_lossOfSet_85 : decode cX2_lossOfSet 85 = .ok (.aload 4, 2) := by decide +kernel
theorem dX2_lossOfSet_87 : decode cX2_lossOfSet 87 = .ok (.ifnonnull 7, 3) := by decide +kernel
theorem dX2_lossOfSet_90 : decode cX2_lossOfSet 90 = .ok (.iconst 0, 1) := by decide +kernel
theorem dX2_lossOfSet_91 : decode cX2_lossOfSet 91 = .ok (.goto 12, 3) := by decide +kernel
theorem dX2_lossOfSet_94 : decode cX2_lossOfSet 94 = .ok (.iconst 3, 1) := by decide +kernel
theorem dX2_lossOfSet_95 : decode cX2_lossOfSet 95 = .ok (.aload_n 0, 1) := by decide +kernel
theorem dX2_lossOfSet_96 : decode cX2_lossOfSet 96 = .ok (.aload 4, 2) := by decide +kernel
theorem dX2_lossOfSet_98 : decode cX2_lossOfSet 98 = .ok (.iload_n 1, 1) := by decide +kernel
theorem dX2_lossOfSet_99 : decode cX2_lossOfSet 99 = .ok (.invokevirtual 253, 3) := by decide +kernel
theorem dX2_lossOfSet_102 : decode cX2_lossOfSet 102 = .ok (.imul, 1) := by decide +kernel
theorem dX2_lossOfSet_103 : decode cX2_lossOfSet 103 = .ok (.iadd, 1) := by decide +kernel
theorem dX2_lossOfSet_104 : decode cX2_lossOfSet 104 = .ok (.istore_n 2, 1) := by decide +kernel
theorem dX2_lossOfSet_105 : decode cX2_lossOfSet 105 = .ok (.iinc 3 1, 3) := by decide +kernel
theorem dX2_lossOfSet_108 : decode cX2_lossOfSet 108 = .ok (.goto (-51), 3) := by decide +kernel
theorem dX2_lossOfSet_111 : decode cX2_lossOfSet 111 = .ok (.iload_n 2, 1) := by decide +kernel
theorem dX2_lossOfSet_112 : decode cX2_lossOfSet 112 = .ok (.ireturn, 1) := by decide +kernel
theorem dX2_distanceToSet_0 : decode cX2_distanceToSet 0 = .ok (.bipush 100, 2) := by decide +kernel
theorem dX2_distanceToSet_2 : decode cX2_distanceToSet 2 = .ok (.istore_n 3, 1) := by decide +kernel
theorem dX2_distanceToSet_3 : decode cX2_distanceToSet 3 = .ok (.iconst 0, 1) := by decide +kernel
theorem dX2_distanceToSet_4 : decode cX2_distanceToSet 4 = .ok (.istore 4, 2) := by decide +kernel
theorem dX2_distanceToSet_6 : decode cX2_distanceToSet 6 = .ok (.iload 4, 2) := by decide +kernel
theorem dX2_distanceToSet_8 : decode cX2_distanceToSet 8 = .ok (.aload_n 0, 1) := by decide +kernel
theorem dX2_distanceToSet_9 : decode cX2_distanceToSet 9 = .ok (.getfield 12, 3) := by decide +kernel
theorem dX2_distanceToSet_12 : decode cX2_distanceToSet 12 = .ok (.invokevirtual 52, 3) := by decide +kernel
theorem dX2_distanceToSet_15 : decode cX2_distanceToSet 15 = .ok (.if_icmp .ge 43, 3) := by decide +kernel
theorem dX2_distanceToSet_18 : decode cX2_distanceToSet 18 = .ok (.aload_n 0, 1) := by decide +kernel
theorem dX2_distanceToSet_19 : decode cX2_distanceToSet 19 = .ok (.getfield 12, 3) := by decide +kernel
theorem dX2_distanceToSet_22 : decode cX2_distanceToSet 22 = .ok (.iload 4, 2) := by decide +kernel
theorem dX2_distanceToSet_24 : decode cX2_distanceToSet 24 = .ok (.invokevirtual 129, 3) := by decide +kernel
theorem dX2_distanceToSet_27 : decode cX2_distanceToSet 27 = .ok (.checkcast 61, 3) := by decide +kernel
theorem dX2_distanceToSet_30 : decode cX2_distanceToSet 30 = .ok (.astore 5, 2) := by decide +kernel
theorem dX2_distanceToSet_32 : decode cX2_distanceToSet 32 = .ok (.aload 5, 2) := by decide +kernel
theorem dX2_distanceToSet_34 : decode cX2_distanceToSet 34 = .ok (.iload_n 2, 1) := by decide +kernel
theorem dX2_distanceToSet_35 : decode cX2_distanceToSet 35 = .ok (.invokevirtual 250, 3) := by decide +kernel
theorem dX2_distanceToSet_38 : decode cX2_distanceToSet 38 = .ok (.ifCond .eq 14, 3) := by decide +kernel
theorem dX2_distanceToSet_41 : decode cX2_distanceToSet 41 = .ok (.iload_n 3, 1) := by decide +kernel
theorem dX2_distanceToSet_42 : decode cX2_distanceToSet 42 = .ok (.aload_n 1, 1) := by decide +kernel
theorem dX2_distanceToSet_43 : decode cX2_distanceToSet 43 = .ok (.aload 5, 2) := by decide +kernel
theorem dX2_distanceToSet_45 : decode cX2_distanceToSet 45 = .ok (.invokevirtual 257, 3) := by decide +kernel
theorem dX2_distanceToSet_48 : decode cX2_distanceToSet 48 = .ok (.invokestatic 260, 3) := by decide +kernel
theorem dX2_distanceToSet_51 : decode cX2_distanceToSet 51 = .ok (.istore_n 3, 1) := by decide +kernel
theorem dX2_distanceToSet_52 : decode cX2_distanceToSet 52 = .ok (.iinc 4 1, 3) := by decide +kernel
theorem dX2_distanceToSet_55 : decode cX2_distanceToSet 55 = .ok (.goto (-49), 3) := by decide +kernel
theorem dX2_distanceToSet_58 : decode cX2_distanceToSet 58 = .ok (.iload_n 3, 1) := by decide +kernel
theorem dX2_distanceToSet_59 : decode cX2_distanceToSet 59 = .ok (.ireturn, 1) := by decide +kernel
theorem dX2_findPlanKey_0 : decode cX2_findPlanKey 0 = .ok (.aload_n 0, 1) := by decide +kernel
theorem dX2_findPlanKey_1 : decode cX2_findPlanKey 1 = .ok (.getfield 21, 3) := by decide +kernel
theorem dX2_findPlanKey_4 : decode cX2_findPlanKey 4 = .ok (.invokevirtual 52, 3) := by decide +kernel
theorem dX2_findPlanKey_7 : decode cX2_findPlanKey 7 = .ok (.istore_n 1, 1) := by decide +kernel
theorem dX2_findPlanKey_8 : decode cX2_findPlanKey 8 = .ok (.iload_n 1, 1) := by decide +kernel
theorem dX2_findPlanKey_9 : decode cX2_findPlanKey 9 = .ok (.ifCond .ne 5, 3) := by decide +kernel
theorem dX2_findPlanKey_12 : decode cX2_findPlanKey 12 = .ok (.iconst 0, 1) := by decide +kernel
theorem dX2_findPlanKey_13 : decode cX2_findPlanKey 13 = .ok (.ireturn, 1) := by decide +kernel
theorem dX2_findPlanKey_14 : decode cX2_findPlanKey 14 = .ok (.ldc 137, 2) := by decide +kernel
theorem dX2_findPlanKey_16 : decode cX2_findPlanKey 16 = .ok (.istore_n 2, 1) := by decide +kernel
theorem dX2_findPlanKey_17 : decode cX2_findPlanKey 17 = .ok (.iconst 0, 1) := by decide +kernel
theorem dX2_findPlanKey_18 : decode cX2_findPlanKey 18 = .ok (.istore_n 3, 1) := by decide +kernel
theorem dX2_findPlanKey_19 : decode cX2_findPlanKey 19 = .ok (.iload_n 3, 1) := by decide +kernel
theorem dX2_findPlanKey_20 : decode cX2_findPlanKey 20 = .ok (.aload_n 0, 1) := by decide +kernel
theorem dX2_findPlanKey_21 : decode cX2_findPlanKey 21 = .ok (.getfield 12, 3) := by decide +kernel
theorem dX2_findPlanKey_24 : decode cX2_findPlanKey 24 = .ok (.invokevirtual 52, 3) := by decide +kernel
theorem dX2_findPlanKey_27 : decode cX2_findPlanKey 27 = .ok (.if_icmp .ge 66, 3) := by decide +kernel
theorem dX2_findPlanKey_30 : decode cX2_findPlanKey 30 = .ok (.aload_n 0, 1) := by decide +kernel
theorem dX2_findPlanKey_31 : decode cX2_findPlanKey 31 = .ok (.getfield 12, 3) := by decide +kernel
theorem dX2_findPlanKey_34 : decode cX2_findPlanKey 34 = .ok (.iload_n 3, 1) := by decide +kernel
theorem dX2_findPlanKey_35 : decode cX2_findPlanKey 35 = .ok (.invokevirtual 129, 3) := by decide +kernel
theorem dX2_findPlanKey_38 : decode cX2_findPlanKey 38 = .ok (.checkcast 61, 3) := by decide +kernel
theorem dX2_findPlanKey_41 : decode cX2_findPlanKey 41 = .ok (.astore 4, 2) := by decide +kernel
theorem dX2_findPlanKey_43 : decode cX2_findPlanKey 43 = .ok (.aload_n 0, 1) := by decide +kernel
theorem dX2_findPlanKey_44 : decode cX2_findPlanKey 44 = .ok (.aload 4, 2) := by decide +kernel
theorem dX2_findPlanKey_46 : decode cX2_findPlanKey 46 = .ok (.iload_n 1, 1) := by decide +kernel
theorem dX2_findPlanKey_47 : decode cX2_findPlanKey 47 = .ok (.invokevirtual 266, 3) := by decide +kernel
theorem dX2_findPlanKey_50 : decode cX2_findPlanKey 50 = .ok (.aload 4, 2) := by decide +kernel
theorem dX2_findPlanKey_52 : decode cX2_findPlanKey 52 = .ok (.iload_n 1, 1) := by decide +kernel
theorem dX2_findPlanKey_53 : decode cX2_findPlanKey 53 = .ok (.invokevirtual 270, 3) := by decide +kernel
theorem dX2_findPlanKey_56 : decode cX2_findPlanKey 56 = .ok (.istore 5, 2) := by decide +kernel
theorem dX2_findPlanKey_58 : decode cX2_findPlanKey 58 = .ok (.iload 5, 2) := by decide +kernel
theorem dX2_findPlanKey_60 : decode cX2_findPlanKey 60 = .ok (.ldc 137, 2) := by decide +kernel
theorem dX2_findPlanKey_62 : decode cX2_findPlanKey 62 = .ok (.if_icmp .eq 25, 3) := by decide +kernel
theorem dX2_findPlanKey_65 : decode cX2_findPlanKey 65 = .ok (.iload_n 2, 1) := by decide +kernel
theorem dX2_findPlanKey_66 : decode cX2_findPlanKey 66 = .ok (.iload 5, 2) := by decide +kernel
theorem dX2_findPlanKey_68 : decode cX2_findPlanKey 68 = .ok (.bipush 64, 2) := by decide +kernel
theorem dX2_findPlanKey_70 : decode cX2_findPlanKey 70 = .ok (.aload_n 0, 1) := by decide +kernel
theorem dX2_findPlanKey_71 : decode cX2_findPlanKey 71 = .ok (.aload 4, 2) := by decide +kernel
theorem dX2_findPlanKey_73 : decode cX2_findPlanKey 73 = .ok (.getfield 121, 3) := by decide +kernel
theorem dX2_findPlanKey_76 : decode cX2_findPlanKey 76 = .ok (.bipush 100, 2) := by decide +kernel
theorem dX2_findPlanKey_78 : decode cX2_findPlanKey 78 = .ok (.invokevirtual 273, 3) := by decide +kernel
theorem dX2_findPlanKey_81 : decode cX2_findPlanKey 81 = .ok (.imul, 1) := by decide +kernel
theorem dX2_findPlanKey_82 : decode cX2_findPlanKey 82 = .ok (.iadd, 1) := by decide +kernel
theorem dX2_findPlanKey_83 : decode cX2_findPlanKey 83 = .ok (.invokestatic 260, 3) := by decide +kernel
theorem dX2_findPlanKey_86 : decode cX2_findPlanKey 86 = .ok (.istore_n 2, 1) := by decide +kernel
theorem dX2_findPlanKey_87 : decode cX2_findPlanKey 87 = .ok (.iinc 3 1, 3) := by decide +kernel
theorem dX2_findPlanKey_90 : decode cX2_findPlanKey 90 = .ok (.goto (-71), 3) := by decide +kernel
theorem dX2_findPlanKey_93 : decode cX2_findPlanKey 93 = .ok (.iload_n 2, 1) := by decide +kernel
theorem dX2_findPlanKey_94 : decode cX2_findPlanKey 94 = .ok (.ldc 137, 2) := by decide +kernel
theorem dX2_findPlanKey_96 : decode cX2_findPlanKey 96 = .ok (.if_icmp .ne 7, 3) := by decide +kernel
theorem dX2_findPlanKey_99 : decode cX2_findPlanKey 99 = .ok (.iconst 0, 1) := by decide +kernel
theorem dX2_findPlanKey_100 : decode cX2_findPlanKey 100 = .ok (.goto 4, 3) := by decide +kernel
theorem dX2_findPlanKey_103 : decode cX2_findPlanKey 103 = .ok (.iload_n 2, 1) := by decide +kernel
theorem dX2_findPlanKey_104 : decode cX2_findPlanKey 104 = .ok (.ireturn, 1) := by decide +kernel
theorem dX2_findKeysUpTo_0 : decode cX2_findKeysUpTo 0 = .ok (.aload_n 1, 1) := by decide +kernel
theorem dX2_findKeysUpTo_1 : decode cX2_findKeysUpTo 1 = .ok (.invokevirtual 276, 3) := by decide +kernel
theorem dX2_findKeysUpTo_4 : decode cX2_findKeysUpTo 4 = .ok (.aload_n 1, 1) := by decide +kernel
theorem dX2_findKeysUpTo_5 : decode cX2_findKeysUpTo 5 = .ok (.getfield 74, 3) := by decide +kernel
theorem dX2_findKeysUpTo_8 : decode cX2_findKeysUpTo 8 = .ok (.aload_n 0, 1) := by decide +kernel
theorem dX2_findKeysUpTo_9 : decode cX2_findKeysUpTo 9 = .ok (.bipush (-100), 2) := by decide +kernel
theorem dX2_findKeysUpTo_11 : decode cX2_findKeysUpTo 11 = .ok (.aload_n 1, 1) := by decide +kernel
theorem dX2_findKeysUpTo_12 : decode cX2_findKeysUpTo 12 = .ok (.getfield 121, 3) := by decide +kernel
theorem dX2_findKeysUpTo_15 : decode cX2_findKeysUpTo 15 = .ok (.invokevirtual 273, 3) := by decide +kernel
theorem dX2_findKeysUpTo_18 : decode cX2_findKeysUpTo 18 = .ok (.iadd, 1) := by decide +kernel
theorem dX2_findKeysUpTo_19 : decode cX2_findKeysUpTo 19 = .ok (.istore_n 3, 1) := by decide +kernel
theorem dX2_findKeysUpTo_20 : decode cX2_findKeysUpTo 20 = .ok (.aload_n 1, 1) := by decide +kernel
theorem dX2_findKeysUpTo_21 : decode cX2_findKeysUpTo 21 = .ok (.aload_n 1, 1) := by decide +kernel
theorem dX2_findKeysUpTo_22 : decode cX2_findKeysUpTo 22 = .ok (.getfield 225, 3) := by decide +kernel
theorem dX2_findKeysUpTo_25 : decode cX2_findKeysUpTo 25 = .ok (.iload_n 2, 1) := by decide +kernel
theorem dX2_findKeysUpTo_26 : decode cX2_findKeysUpTo 26 = .ok (.invokestatic 260, 3) := by decide +kernel
theorem dX2_findKeysUpTo_29 : decode cX2_findKeysUpTo 29 = .ok (.bipush 64, 2) := by decide +kernel
theorem dX2_findKeysUpTo_31 : decode cX2_findKeysUpTo 31 = .ok (.iload_n 3, 1) := by decide +kernel
theorem dX2_findKeysUpTo_32 : decode cX2_findKeysUpTo 32 = .ok (.imul, 1) := by decide +kernel
theorem dX2_findKeysUpTo_33 : decode cX2_findKeysUpTo 33 = .ok (.aload_n 1, 1) := by decide +kernel
theorem dX2_findKeysUpTo_34 : decode cX2_findKeysUpTo 34 = .ok (.invokevirtual 279, 3) := by decide +kernel
theorem dX2_findKeysUpTo_37 : decode cX2_findKeysUpTo 37 = .ok (.iadd, 1) := by decide +kernel
theorem dX2_findKeysUpTo_38 : decode cX2_findKeysUpTo 38 = .ok (.invokevirtual 282, 3) := by decide +kernel
theorem dX2_findKeysUpTo_41 : decode cX2_findKeysUpTo 41 = .ok (.iconst 0, 1) := by decide +kernel
theorem dX2_findKeysUpTo_42 : decode cX2_findKeysUpTo 42 = .ok (.istore 4, 2) := by decide +kernel
theorem dX2_findKeysUpTo_44 : decode cX2_findKeysUpTo 44 = .ok (.iload 4, 2) := by decide +kernel
theorem dX2_findKeysUpTo_46 : decode cX2_findKeysUpTo 46 = .ok (.aload_n 1, 1) := by decide +kernel
theorem dX2_findKeysUpTo_47 : decode cX2_findKeysUpTo 47 = .ok (.getfield 121, 3) := by decide +kernel
theorem dX2_findKeysUpTo_50 : decode cX2_findKeysUpTo 50 = .ok (.if_icmp .ge 39, 3) := by decide +kernel
theorem dX2_findKeysUpTo_53 : decode cX2_findKeysUpTo 53 = .ok (.iload 4, 2) := by decide +kernel
theorem dX2_findKeysUpTo_55 : decode cX2_findKeysUpTo 55 = .ok (.aload_n 0, 1) := by decide +kernel
theorem dX2_findKeysUpTo_56 : decode cX2_findKeysUpTo 56 = .ok (.getfield 12, 3) := by decide +kernel
theorem dX2_findKeysUpTo_59 : decode cX2_findKeysUpTo 59 = .ok (.invokevirtual 52, 3) := by decide +kernel
theorem dX2_findKeysUpTo_62 : decode cX2_findKeysUpTo 62 = .ok (.if_icmp .ge 27, 3) := by decide +kernel
theorem dX2_findKeysUpTo_65 : decode cX2_findKeysUpTo 65 = .ok (.aload_n 0, 1) := by decide +kernel
theorem dX2_findKeysUpTo_66 : decode cX2_findKeysUpTo 66 = .ok (.aload_n 0, 1) := by decide +kernel
theorem dX2_findKeysUpTo_67 : decode cX2_findKeysUpTo 67 = .ok (.getfield 12, 3) := by decide +kernel
theorem dX2_findKeysUpTo_70 : decode cX2_findKeysUpTo 70 = .ok (.iload 4, 2) := by decide +kernel
theorem dX2_findKeysUpTo_72 : decode cX2_findKeysUpTo 72 = .ok (.invokevirtual 129, 3) := by decide +kernel
theorem dX2_findKeysUpTo_75 : decode cX2_findKeysUpTo 75 = .ok (.checkcast 61, 3) := by decide +kernel
theorem dX2_findKeysUpTo_78 : decode cX2_findKeysUpTo 78 = .ok (.aload_n 1, 1) := by decide +kernel
theorem dX2_findKeysUpTo_79 : decode cX2_findKeysUpTo 79 = .ok (.iload_n 2, 1) := by decide +kernel
theorem dX2_findKeysUpTo_80 : decode cX2_findKeysUpTo 80 = .ok (.invokevirtual 285, 3) := by decide +kernel
theorem dX2_findKeysUpTo_83 : decode cX2_findKeysUpTo 83 = .ok (.iinc 4 1, 3) := by decide +kernel
theorem dX2_findKeysUpTo_86 : decode cX2_findKeysUpTo 86 = .ok (.goto (-42), 3) := by decide +kernel
theorem dX2_findKeysUpTo_89 : decode cX2_findKeysUpTo 89 = .ok (.return_, 1) := by decide +kernel
theorem dX2_addFloorToSetsOf_0 : decode cX2_addFloorToSetsOf 0 = .ok (.aload_n 2, 1) := by decide +kernel
theorem dX2_addFloorToSetsOf_1 : decode cX2_addFloorToSetsOf 1 = .ok (.getfield 74, 3) := by decide +kernel
theorem dX2_addFloorToSetsOf_4 : decode cX2_addFloorToSetsOf 4 = .ok (.aload_n 0, 1) := by decide +kernel
theorem dX2_addFloorToSetsOf_5 : decode cX2_addFloorToSetsOf 5 = .ok (.aload_n 1, 1) := by decide +kernel
theorem dX2_addFloorToSetsOf_6 : decode cX2_addFloorToSetsOf 6 = .ok (.getfield 121, 3) := by decide +kernel
theorem dX2_addFloorToSetsOf_9 : decode cX2_addFloorToSetsOf 9 = .ok (.aload_n 2, 1) := by decide +kernel
theorem dX2_addFloorToSetsOf_10 : decode cX2_addFloorToSetsOf 10 = .ok (.getfield 121, 3) := by decide +kernel
theorem dX2_addFloorToSetsOf_13 : decode cX2_addFloorToSetsOf 13 = .ok (.invokevirtual 273, 3) := by decide +kernel
theorem dX2_addFloorToSetsOf_16 : decode cX2_addFloorToSetsOf 16 = .ok (.iadd, 1) := by decide +kernel
theorem dX2_addFloorToSetsOf_17 : decode cX2_addFloorToSetsOf 17 = .ok (.istore 4, 2) := by decide +kernel
theorem dX2_addFloorToSetsOf_19 : decode cX2_addFloorToSetsOf 19 = .ok (.iconst 0, 1) := by decide +kernel
theorem dX2_addFloorToSetsOf_20 : decode cX2_addFloorToSetsOf 20 = .ok (.istore 5, 2) := by decide +kernel
theorem dX2_addFloorToSetsOf_22 : decode cX2_addFloorToSetsOf 22 = .ok (.iload 5, 2) := by decide +kernel
theorem dX2_addFloorToSetsOf_24 : decode cX2_addFloorToSetsOf 24 = .ok (.iload_n 3, 1) := by decide +kernel
theorem dX2_addFloorToSetsOf_25 : decode cX2_addFloorToSetsOf 25 = .ok (.if_icmp .gt 56, 3) := by decide +kernel
theorem dX2_addFloorToSetsOf_28 : decode cX2_addFloorToSetsOf 28 = .ok (.aload_n 1, 1) := by decide +kernel
theorem dX2_addFloorToSetsOf_29 : decode cX2_addFloorToSetsOf 29 = .ok (.iload 5, 2) := by decide +kernel
theorem dX2_addFloorToSetsOf_31 : decode cX2_addFloorToSetsOf 31 = .ok (.invokevirtual 270, 3) := by decide +kernel
theorem dX2_addFloorToSetsOf_34 : decode cX2_addFloorToSetsOf 34 = .ok (.istore 6, 2) := by decide +kernel
theorem dX2_addFloorToSetsOf_36 : decode cX2_addFloorToSetsOf 36 = .ok (.iload 6, 2) := by decide +kernel
theorem dX2_addFloorToSetsOf_38 : decode cX2_addFloorToSetsOf 38 = .ok (.ldc 137, 2) := by decide +kernel
theorem dX2_addFloorToSetsOf_40 : decode cX2_addFloorToSetsOf 40 = .ok (.if_icmp .eq 35, 3) := by decide +kernel
theorem dX2_addFloorToSetsOf_43 : decode cX2_addFloorToSetsOf 43 = .ok (.iload 5, 2) := by decide +kernel
theorem dX2_addFloorToSetsOf_45 : decode cX2_addFloorToSetsOf 45 = .ok (.aload_n 2, 1) := by decide +kernel
theorem dX2_addFloorToSetsOf_46 : decode cX2_addFloorToSetsOf 46 = .ok (.getfield 225, 3) := by decide +kernel
theorem dX2_addFloorToSetsOf_49 : decode cX2_addFloorToSetsOf 49 = .ok (.iadd, 1) := by decide +kernel
theorem dX2_addFloorToSetsOf_50 : decode cX2_addFloorToSetsOf 50 = .ok (.iload_n 3, 1) := by decide +kernel
theorem dX2_addFloorToSetsOf_51 : decode cX2_addFloorToSetsOf 51 = .ok (.invokestatic 260, 3) := by decide +kernel
theorem dX2_addFloorToSetsOf_54 : decode cX2_addFloorToSetsOf 54 = .ok (.istore 7, 2) := by decide +kernel
theorem dX2_addFloorToSetsOf_56 : decode cX2_addFloorToSetsOf 56 = .ok (.aload_n 2, 1) := by decide +kernel
theorem dX2_addFloorToSetsOf_57 : decode cX2_addFloorToSetsOf 57 = .ok (.iload 7, 2) := by decide +kernel
theorem dX2_addFloorToSetsOf_59 : decode cX2_addFloorToSetsOf 59 = .ok (.iload 6, 2) := by decide +kernel
theorem dX2_addFloorToSetsOf_61 : decode cX2_addFloorToSetsOf 61 = .ok (.bipush 64, 2) := by decide +kernel
theorem dX2_addFloorToSetsOf_63 : decode cX2_addFloorToSetsOf 63 = .ok (.iload 4, 2) := by decide +kernel
theorem dX2_addFloorToSetsOf_65 : decode cX2_addFloorToSetsOf 65 = .ok (.imul, 1) := by decide +kernel
theorem dX2_addFloorToSetsOf_66 : decode cX2_addFloorToSetsOf 66 = .ok (.iadd, 1) := by decide +kernel
theorem dX2_addFloorToSetsOf_67 : decode cX2_addFloorToSetsOf 67 = .ok (.aload_n 2, 1) := by decide +kernel
theorem dX2_addFloorToSetsOf_68 : decode cX2_addFloorToSetsOf 68 = .ok (.invokevirtual 279, 3) := by decide +kernel
theorem dX2_addFloorToSetsOf_71 : decode cX2_addFloorToSetsOf 71 = .ok (.iadd, 1) := by decide +kernel
theorem dX2_addFloorToSetsOf_72 : decode cX2_addFloorToSetsOf 72 = .ok (.invokevirtual 282, 3) := by decide +kernel
theorem dX2_addFloorToSetsOf_75 : decode cX2_addFloorToSetsOf 75 = .ok (.iinc 5 1, 3) := by decide +kernel
theorem dX2_addFloorToSetsOf_78 : decode cX2_addFloorToSetsOf 78 = .ok (.goto (-56), 3) := by decide +kernel
theorem dX2_addFloorToSetsOf_81 : decode cX2_addFloorToSetsOf 81 = .ok (.return_, 1) := by decide +kernel
theorem dX2_lossBetween_0 : decode cX2_lossBetween 0 = .ok (.iconst 0, 1) := by decide +kernel
theorem dX2_lossBetween_1 : decode cX2_lossBetween 1 = .ok (.istore_n 3, 1) := by decide +kernel
theorem dX2_lossBetween_2 : decode cX2_lossBetween 2 = .ok (.iconst 0, 1) := by decide +kernel
theorem dX2_lossBetween_3 : decode cX2_lossBetween 3 = .ok (.istore 4, 2) := by decide +kernel
theorem dX2_lossBetween_5 : decode cX2_lossBetween 5 = .ok (.iload 4, 2) := by decide +kernel
theorem dX2_lossBetween_7 : decode cX2_lossBetween 7 = .ok (.aload_n 0, 1) := by decide +kernel
theorem dX2_lossBetween_8 : decode cX2_lossBetween 8 = .ok (.getfield 21, 3) := by decide +kernel
theorem dX2_lossBetween_11 : decode cX2_lossBetween 11 = .ok (.invokevirtual 52, 3) := by decide +kernel
theorem dX2_lossBetween_14 : decode cX2_lossBetween 14 = .ok (.if_icmp .ge 69, 3) := by decide +kernel
theorem dX2_lossBetween_17 : decode cX2_lossBetween 17 = .ok (.aload_n 0, 1) := by decide +kernel
theorem dX2_lossBetween_18 : decode cX2_lossBetween 18 = .ok (.getfield 21, 3) := by decide +kernel
theorem dX2_lossBetween_21 : decode cX2_lossBetween 21 = .ok (.iload 4, 2) := by decide +kernel
theorem dX2_lossBetween_23 : decode cX2_lossBetween 23 = .ok (.invokevirtual 129, 3) := by decide +kernel
theorem dX2_lossBetween_26 : decode cX2_lossBetween 26 = .ok (.checkcast 82, 3) := by decide +kernel
theorem dX2_lossBetween_29 : decode cX2_lossBetween 29 = .ok (.getfield 94, 3) := by decide +kernel
theorem dX2_lossBetween_32 : decode cX2_lossBetween 32 = .ok (.astore 5, 2) := by decide +kernel
theorem dX2_lossBetween_34 : decode cX2_lossBetween 34 = .ok (.aload 5, 2) := by decide +kernel
theorem dX2_lossBetween_36 : decode cX2_lossBetween 36 = .ok (.ifnull 41, 3) := by decide +kernel
theorem dX2_lossBetween_39 : decode cX2_lossBetween 39 = .ok (.aload 5, 2) := by decide +kernel
theorem dX2_lossBetween_41 : decode cX2_lossBetween 41 = .ok (.getfield 121, 3) := by decide +kernel
theorem dX2_lossBetween_44 : decode cX2_lossBetween 44 = .ok (.iload_n 1, 1) := by decide +kernel
theorem dX2_lossBetween_45 : decode cX2_lossBetween 45 = .ok (.if_icmp .le 32, 3) := by decide +kernel
theorem dX2_lossBetween_48 : decode cX2_lossBetween 48 = .ok (.aload 5, 2) := by decide +kernel
theorem dX2_lossBetween_50 : decode cX2_lossBetween 50 = .ok (.getfield 121, 3) := by decide +kernel
theorem dX2_lossBetween_53 : decode cX2_lossBetween 53 = .ok (.iload_n 2, 1) := by decide +kernel
theorem dX2_lossBetween_54 : decode cX2_lossBetween 54 = .ok (.if_icmp .ge 23, 3) := by decide +kernel
theorem dX2_lossBetween_57 : decode cX2_lossBetween 57 = .ok (.iload_n 3, 1) := by decide +kernel
theorem dX2_lossBetween_58 : decode cX2_lossBetween 58 = .ok (.aload 5, 2) := by decide +kernel
theorem dX2_lossBetween_60 : decode cX2_lossBetween 60 = .ok (.getfield 121, 3) := by decide +kernel
theorem dX2_lossBetween_63 : decode cX2_lossBetween 63 = .ok (.iload_n 1, 1) := by decide +kernel
theorem dX2_lossBetween_64 : decode cX2_lossBetween 64 = .ok (.isub, 1) := by decide +kernel
theorem dX2_lossBetween_65 : decode cX2_lossBetween 65 = .ok (.iload_n 2, 1) := by decide +kernel
theorem dX2_lossBetween_66 : decode cX2_lossBetween 66 = .ok (.aload 5, 2) := by decide +kernel
theorem dX2_lossBetween_68 : decode cX2_lossBetween 68 = .ok (.getfield 121, 3) := by decide +kernel
theorem dX2_lossBetween_71 : decode cX2_lossBetween 71 = .ok (.isub, 1) := by decide +kernel
theorem dX2_lossBetween_72 : decode cX2_lossBetween 72 = .ok (.invokestatic 260, 3) := by decide +kernel
theorem dX2_lossBetween_75 : decode cX2_lossBetween 75 = .ok (.iadd, 1) := by decide +kernel
theorem dX2_lossBetween_76 : decode cX2_lossBetween 76 = .ok (.istore_n 3, 1) := by decide +kernel
theorem dX2_lossBetween_77 : decode cX2_lossBetween 77 = .ok (.iinc 4 1, 3) := by decide +kernel
theorem dX2_lossBetween_80 : decode cX2_lossBetween 80 = .ok (.goto (-75), 3) := by decide +kernel
theorem dX2_lossBetween_83 : decode cX2_lossBetween 83 = .ok (.iconst 3, 1) := by decide +kernel
theorem dX2_lossBetween_84 : decode cX2_lossBetween 84 = .ok (.iload_n 3, 1) := by decide +kernel
theorem dX2_lossBetween_85 : decode cX2_lossBetween 85 = .ok (.imul, 1) := by decide +kernel
theorem dX2_lossBetween_86 : decode cX2_lossBetween 86 = .ok (.ireturn, 1) := by decide +kernel
theorem dX2_countNoShows_0 : decode cX2_countNoShows 0 = .ok (.iconst 0, 1) := by decide +kernel
theorem dX2_countNoShows_1 : decode cX2_countNoShows 1 = .ok (.istore_n 1, 1) := by decide +kernel
theorem dX2_countNoShows_2 : decode cX2_countNoShows 2 = .ok (.iconst 0, 1) := by decide +kernel
theorem dX2_countNoShows_3 : decode cX2_countNoShows 3 = .ok (.istore_n 2, 1) := by decide +kernel
theorem dX2_countNoShows_4 : decode cX2_countNoShows 4 = .ok (.iload_n 2, 1) := by decide +kernel
theorem dX2_countNoShows_5 : decode cX2_countNoShows 5 = .ok (.aload_n 0, 1) := by decide +kernel
theorem dX2_countNoShows_6 : decode cX2_countNoShows 6 = .ok (.getfield 18, 3) := by decide +kernel
theorem dX2_countNoShows_9 : decode cX2_countNoShows 9 = .ok (.invokevirtual 52, 3) := by decide +kernel
theorem dX2_countNoShows_12 : decode cX2_countNoShows 12 = .ok (.if_icmp .ge 34, 3) := by decide +kernel
theorem dX2_countNoShows_15 : decode cX2_countNoShows 15 = .ok (.iload_n 1, 1) := by decide +kernel
theorem dX2_countNoShows_16 : decode cX2_countNoShows 16 = .ok (.aload_n 0, 1) := by decide +kernel
theorem dX2_countNoShows_17 : decode cX2_countNoShows 17 = .ok (.getfield 18, 3) := by decide +kernel
theorem dX2_countNoShows_20 : decode cX2_countNoShows 20 = .ok (.iload_n 2, 1) := by decide +kernel
theorem dX2_countNoShows_21 : decode cX2_countNoShows 21 = .ok (.invokevirtual 129, 3) := by decide +kernel
theorem dX2_countNoShows_24 : decode cX2_countNoShows 24 = .ok (.checkcast 82, 3) := by decide +kernel
theorem dX2_countNoShows_27 : decode cX2_countNoShows 27 = .ok (.invokevirtual 289, 3) := by decide +kernel
theorem dX2_countNoShows_30 : decode cX2_countNoShows 30 = .ok (.ifCond .eq 7, 3) := by decide +kernel
theorem dX2_countNoShows_33 : decode cX2_countNoShows 33 = .ok (.iconst 1, 1) := by decide +kernel
theorem dX2_countNoShows_34 : decode cX2_countNoShows 34 = .ok (.goto 4, 3) := by decide +kernel
theorem dX2_countNoShows_37 : decode cX2_countNoShows 37 = .ok (.iconst 0, 1) := by decide +kernel
theorem dX2_countNoShows_38 : decode cX2_countNoShows 38 = .ok (.iadd, 1) := by decide +kernel
theorem dX2_countNoShows_39 : decode cX2_countNoShows 39 = .ok (.istore_n 1, 1) := by decide +kernel
theorem dX2_countNoShows_40 : decode cX2_countNoShows 40 = .ok (.iinc 2 1, 3) := by decide +kernel
theorem dX2_countNoShows_43 : decode cX2_countNoShows 43 = .ok (.goto (-39), 3) := by decide +kernel
theorem dX2_countNoShows_46 : decode cX2_countNoShows 46 = .ok (.iload_n 1, 1) := by decide +kernel
theorem dX2_countNoShows_47 : decode cX2_countNoShows 47 = .ok (.ireturn, 1) := by decide +kernel
theorem dX2_judgePeople_0 : decode cX2_judgePeople 0 = .ok (.iconst 0, 1) := by decide +kernel
theorem dX2_judgePeople_1 : decode cX2_judgePeople 1 = .ok (.istore_n 1, 1) := by decide +kernel
theorem dX2_judgePeople_2 : decode cX2_judgePeople 2 = .ok (.iload_n 1, 1) := by decide +kernel
theorem dX2_judgePeople_3 : decode cX2_judgePeople 3 = .ok (.aload_n 0, 1) := by decide +kernel
theorem dX2_judgePeople_4 : decode cX2_judgePeople 4 = .ok (.getfield 18, 3) := by decide +kernel
theorem dX2_judgePeople_7 : decode cX2_judgePeople 7 = .ok (.invokevirtual 52, 3) := by decide +kernel
theorem dX2_judgePeople_10 : decode cX2_judgePeople 10 = .ok (.if_icmp .ge 23, 3) := by decide +kernel
theorem dX2_judgePeople_13 : decode cX2_judgePeople 13 = .ok (.aload_n 0, 1) := by decide +kernel
theorem dX2_judgePeople_14 : decode cX2_judgePeople 14 = .ok (.getfield 18, 3) := by decide +kernel
theorem dX2_judgePeople_17 : decode cX2_judgePeople 17 = .ok (.iload_n 1, 1) := by decide +kernel
theorem dX2_judgePeople_18 : decode cX2_judgePeople 18 = .ok (.invokevirtual 129, 3) := by decide +kernel
theorem dX2_judgePeople_21 : decode cX2_judgePeople 21 = .ok (.checkcast 82, 3) := by decide +kernel
theorem dX2_judgePeople_24 : decode cX2_judgePeople 24 = .ok (.invokevirtual 292, 3) := by decide +kernel
theorem dX2_judgePeople_27 : decode cX2_judgePeople 27 = .ok (.iinc 1 1, 3) := by decide +kernel
theorem dX2_judgePeople_30 : decode cX2_judgePeople 30 = .ok (.goto (-28), 3) := by decide +kernel
theorem dX2_judgePeople_33 : decode cX2_judgePeople 33 = .ok (.return_, 1) := by decide +kernel
theorem dX2_cleanOpenFloors_0 : decode cX2_cleanOpenFloors 0 = .ok (.iconst 0, 1) := by decide +kernel
theorem dX2_cleanOpenFloors_1 : decode cX2_cleanOpenFloors 1 = .ok (.istore_n 1, 1) := by decide +kernel
theorem dX2_cleanOpenFloors_2 : decode cX2_cleanOpenFloors 2 = .ok (.iload_n 1, 1) := by decide +kernel
theorem dX2_cleanOpenFloors_3 : decode cX2_cleanOpenFloors 3 = .ok (.aload_n 0, 1) := by decide +kernel
theorem dX2_cleanOpenFloors_4 : decode cX2_cleanOpenFloors 4 = .ok (.getfield 12, 3) := by decide +kernel
theorem dX2_cleanOpenFloors_7 : decode cX2_cleanOpenFloors 7 = .ok (.invokevirtual 52, 3) := by decide +kernel
theorem dX2_cleanOpenFloors_10 : decode cX2_cleanOpenFloors 10 = .ok (.if_icmp .ge 48, 3) := by decide +kernel
theorem dX2_cleanOpenFloors_13 : decode cX2_cleanOpenFloors 13 = .ok (.aload_n 0, 1) := by decide +kernel
theorem dX2_cleanOpenFloors_14 : decode cX2_cleanOpenFloors 14 = .ok (.getfield 12, 3) := by decide +kernel
theorem dX2_cleanOpenFloors_17 : decode cX2_cleanOpenFloors 17 = .ok (.iload_n 1, 1) := by decide +kernel
theorem dX2_cleanOpenFloors_18 : decode cX2_cleanOpenFloors 18 = .ok (.invokevirtual 129, 3) := by decide +kernel
theorem dX2_cleanOpenFloors_21 : decode cX2_cleanOpenFloors 21 = .ok (.checkcast 61, 3) := by decide +kernel
theorem dX2_cleanOpenFloors_24 : decode cX2_cleanOpenFloors 24 = .ok (.astore_n 2, 1) := by decide +kernel
theorem dX2_cleanOpenFloors_25 : decode cX2_cleanOpenFloors 25 = .ok (.aload_n 2, 1) := by decide +kernel
theorem dX2_cleanOpenFloors_26 : decode cX2_cleanOpenFloors 26 = .ok (.getfield 194, 3) := by decide +kernel
theorem dX2_cleanOpenFloors_29 : decode cX2_cleanOpenFloors 29 = .ok (.ifCond .eq 23, 3) := by decide +kernel
theorem dX2_cleanOpenFloors_32 : decode cX2_cleanOpenFloors 32 = .ok (.aload_n 0, 1) := by decide +kernel
theorem dX2_cleanOpenFloors_33 : decode cX2_cleanOpenFloors 33 = .ok (.dup, 1) := by decide +kernel
theorem dX2_cleanOpenFloors_34 : decode cX2_cleanOpenFloors 34 = .ok (.getfield 38, 3) := by decide +kernel
theorem dX2_cleanOpenFloors_37 : decode cX2_cleanOpenFloors 37 = .ok (.bipush 10, 2) := by decide +kernel
theorem dX2_cleanOpenFloors_39 : decode cX2_cleanOpenFloors 39 = .ok (.iconst 5, 1) := by decide +kernel
theorem dX2_cleanOpenFloors_40 : decode cX2_cleanOpenFloors 40 = .ok (.aload_n 0, 1) := by decide +kernel
theorem dX2_cleanOpenFloors_41 : decode cX2_cleanOpenFloors 41 = .ok (.aload_n 2, 1) := by decide +kernel
theorem dX2_cleanOpenFloors_42 : decode cX2_cleanOpenFloors 42 = .ok (.invokevirtual 295, 3) := by decide +kernel
theorem dX2_cleanOpenFloors_45 : decode cX2_cleanOpenFloors 45 = .ok (.imul, 1) := by decide +kernel
theorem dX2_cleanOpenFloors_46 : decode cX2_cleanOpenFloors 46 = .ok (.iadd, 1) := by decide +kernel
theorem dX2_cleanOpenFloors_47 : decode cX2_cleanOpenFloors 47 = .ok (.i2l, 1) := by decide +kernel
theorem dX2_cleanOpenFloors_48 : decode cX2_cleanOpenFloors 48 = .ok (.ladd, 1) := by decide +kernel
theorem dX2_cleanOpenFloors_49 : decode cX2_cleanOpenFloors 49 = .ok (.putfield 38, 3) := by decide +kernel
theorem dX2_cleanOpenFloors_52 : decode cX2_cleanOpenFloors 52 = .ok (.iinc 1 1, 3) := by decide +kernel
theorem dX2_cleanOpenFloors_55 : decode cX2_cleanOpenFloors 55 = .ok (.goto (-53), 3) := by decide +kernel
theorem dX2_cleanOpenFloors_58 : decode cX2_cleanOpenFloors 58 = .ok (.return_, 1) := by decide +kernel
theorem dX2_sendPeopleHome_0 : decode cX2_sendPeopleHome 0 = .ok (.iconst 0, 1) := by decide +kernel
theorem dX2_sendPeopleHome_1 : decode cX2_sendPeopleHome 1 = .ok (.istore_n 1, 1) := by decide +kernel
theorem dX2_sendPeopleHome_2 : decode cX2_sendPeopleHome 2 = .ok (.iload_n 1, 1) := by decide +kernel
theorem dX2_sendPeopleHome_3 : decode cX2_sendPeopleHome 3 = .ok (.aload_n 0, 1) := by decide +kernel
theorem dX2_sendPeopleHome_4 : decode cX2_sendPeopleHome 4 = .ok (.getfield 18, 3) := by decide +kernel
theorem dX2_sendPeopleHome_7 : decode cX2_sendPeopleHome 7 = .ok (.invokevirtual 52, 3) := by decide +kernel
theorem dX2_sendPeopleHome_10 : decode cX2_sendPeopleHome 10 = .ok (.if_icmp .ge 23, 3) := by decide +kernel
theorem dX2_sendPeopleHome_13 : decode cX2_sendPeopleHome 13 = .ok (.aload_n 0, 1) := by decide +kernel
theorem dX2_sendPeopleHome_14 : decode cX2_sendPeopleHome 14 = .ok (.getfield 18, 3) := by decide +kernel
theorem dX2_sendPeopleHome_17 : decode cX2_sendPeopleHome 17 = .ok (.iload_n 1, 1) := by decide +kernel
theorem dX2_sendPeopleHome_18 : decode cX2_sendPeopleHome 18 = .ok (.invokevirtual 129, 3) := by decide +kernel
theorem dX2_sendPeopleHome_21 : decode cX2_sendPeopleHome 21 = .ok (.checkcast 82, 3) := by decide +kernel
theorem dX2_sendPeopleHome_24 : decode cX2_sendPeopleHome 24 = .ok (.invokevirtual 298, 3) := by decide +kernel
theorem dX2_sendPeopleHome_27 : decode cX2_sendPeopleHome 27 = .ok (.iinc 1 1, 3) := by decide +kernel
theorem dX2_sendPeopleHome_30 : decode cX2_sendPeopleHome 30 = .ok (.goto (-28), 3) := by decide +kernel
theorem dX2_sendPeopleHome_33 : decode cX2_sendPeopleHome 33 = .ok (.return_, 1) := by decide +kernel
theorem dX2_openFloorsOf_0 : decode cX2_openFloorsOf 0 = .ok (.iconst 0, 1) := by decide +kernel
theorem dX2_openFloorsOf_1 : decode cX2_openFloorsOf 1 = .ok (.istore_n 2, 1) := by decide +kernel
theorem dX2_openFloorsOf_2 : decode cX2_openFloorsOf 2 = .ok (.iload_n 2, 1) := by decide +kernel
theorem dX2_openFloorsOf_3 : decode cX2_openFloorsOf 3 = .ok (.aload_n 0, 1) := by decide +kernel
theorem dX2_openFloorsOf_4 : decode cX2_openFloorsOf 4 = .ok (.getfield 12, 3) := by decide +kernel
theorem dX2_openFloorsOf_7 : decode cX2_openFloorsOf 7 = .ok (.invokevirtual 52, 3) := by decide +kernel
theorem dX2_openFloorsOf_10 : decode cX2_openFloorsOf 10 = .ok (.if_icmp .ge 30, 3) := by decide +kernel
theorem dX2_openFloorsOf_13 : decode cX2_openFloorsOf 13 = .ok (.aload_n 0, 1) := by decide +kernel
theorem dX2_openFloorsOf_14 : decode cX2_openFloorsOf 14 = .ok (.getfield 12, 3) := by decide +kernel
theorem dX2_openFloorsOf_17 : decode cX2_openFloorsOf 17 = .ok (.iload_n 2, 1) := by decide +kernel
theorem dX2_openFloorsOf_18 : decode cX2_openFloorsOf 18 = .ok (.invokevirtual 129, 3) := by decide +kernel
theorem dX2_openFloorsOf_21 : decode cX2_openFloorsOf 21 = .ok (.checkcast 61, 3) := by decide +kernel
theorem dX2_openFloorsOf_24 : decode cX2_openFloorsOf 24 = .ok (.astore_n 3, 1) := by decide +kernel
theorem dX2_openFloorsOf_25 : decode cX2_openFloorsOf 25 = .ok (.aload_n 3, 1) := by decide +kernel
theorem dX2_openFloorsOf_26 : decode cX2_openFloorsOf 26 = .ok (.aload_n 3, 1) := by decide +kernel
theorem dX2_openFloorsOf_27 : decode cX2_openFloorsOf 27 = .ok (.iload_n 1, 1) := by decide +kernel
theorem dX2_openFloorsOf_28 : decode cX2_openFloorsOf 28 = .ok (.invokevirtual 250, 3) := by decide +kernel
theorem dX2_openFloorsOf_31 : decode cX2_openFloorsOf 31 = .ok (.putfield 194, 3) := by decide +kernel
theorem dX2_openFloorsOf_34 : decode cX2_openFloorsOf 34 = .ok (.iinc 2 1, 3) := by decide +kernel
theorem dX2_openFloorsOf_37 : decode cX2_openFloorsOf 37 = .ok (.goto (-35), 3) := by decide +kernel
theorem dX2_openFloorsOf_40 : decode cX2_openFloorsOf 40 = .ok (.return_, 1) := by decide +kernel
theorem dX2_giveSeats_0 : decode cX2_giveSeats 0 = .ok (.bipush 10, 2) := by decide +kernel
theorem dX2_giveSeats_2 : decode cX2_giveSeats 2 = .ok (.istore_n 1, 1) := by decide +kernel
theorem dX2_giveSeats_3 : decode cX2_giveSeats 3 = .ok (.iload_n 1, 1) := by decide +kernel
theorem dX2_giveSeats_4 : decode cX2_giveSeats 4 = .ok (.ifCond .lt 53, 3) := by decide +kernel
theorem dX2_giveSeats_7 : decode cX2_giveSeats 7 = .ok (.iconst 0, 1) := by decide +kernel
theorem dX2_giveSeats_8 : decode cX2_giveSeats 8 = .ok (.istore_n 2, 1) := by decide +kernel
theorem dX2_giveSeats_9 : decode cX2_giveSeats 9 = .ok (.iload_n 2, 1) := by decide +kernel
theorem dX2_giveSeats_10 : decode cX2_giveSeats 10 = .ok (.aload_n 0, 1) := by decide +kernel
theorem dX2_giveSeats_11 : decode cX2_giveSeats 11 = .ok (.getfield 21, 3) := by decide +kernel
theorem dX2_giveSeats_14 : decode cX2_giveSeats 14 = .ok (.invokevirtual 52, 3) := by decide +kernel
theorem dX2_giveSeats_17 : decode cX2_giveSeats 17 = .ok (.if_icmp .ge 34, 3) := by decide +kernel
theorem dX2_giveSeats_20 : decode cX2_giveSeats 20 = .ok (.aload_n 0, 1) := by decide +kernel
theorem dX2_giveSeats_21 : decode cX2_giveSeats 21 = .ok (.getfield 21, 3) := by decide +kernel
theorem dX2_giveSeats_24 : decode cX2_giveSeats 24 = .ok (.iload_n 2, 1) := by decide +kernel
theorem dX2_giveSeats_25 : decode cX2_giveSeats 25 = .ok (.invokevirtual 129, 3) := by decide +kernel
theorem dX2_giveSeats_28 : decode cX2_giveSeats 28 = .ok (.checkcast 82, 3) := by decide +kernel
theorem dX2_giveSeats_31 : decode cX2_giveSeats 31 = .ok (.astore_n 3, 1) := by decide +kernel
theorem dX2_giveSeats_32 : decode cX2_giveSeats 32 = .ok (.aload_n 3, 1) := by decide +kernel
theorem dX2_giveSeats_33 : decode cX2_giveSeats 33 = .ok (.getfield 91, 3) := by decide +kernel
theorem dX2_giveSeats_36 : decode cX2_giveSeats 36 = .ok (.iload_n 1, 1) := by decide +kernel
theorem dX2_giveSeats_37 : decode cX2_giveSeats 37 = .ok (.if_icmp .ne 8, 3) := by decide +kernel
theorem dX2_giveSeats_40 : decode cX2_giveSeats 40 = .ok (.aload_n 0, 1) := by decide +kernel
theorem dX2_giveSeats_41 : decode cX2_giveSeats 41 = .ok (.aload_n 3, 1) := by decide +kernel
theorem dX2_giveSeats_42 : decode cX2_giveSeats 42 = .ok (.invokevirtual 301, 3) := by decide +kernel
theorem dX2_giveSeats_45 : decode cX2_giveSeats 45 = .ok (.iinc 2 1, 3) := by decide +kernel
theorem dX2_giveSeats_48 : decode cX2_giveSeats 48 = .ok (.goto (-39), 3) := by decide +kernel
theorem dX2_giveSeats_51 : decode cX2_giveSeats 51 = .ok (.iinc 1 (-1), 3) := by decide +kernel
theorem dX2_giveSeats_54 : decode cX2_giveSeats 54 = .ok (.goto (-51), 3) := by decide +kernel
theorem dX2_giveSeats_57 : decode cX2_giveSeats 57 = .ok (.return_, 1) := by decide +kernel
theorem dX2_giveSeat_0 : decode cX2_giveSeat 0 = .ok (.aconst_null, 1) := by decide +kernel
theorem dX2_giveSeat_1 : decode cX2_giveSeat 1 = .ok (.astore_n 2, 1) := by decide +kernel
theorem dX2_giveSeat_2 : decode cX2_giveSeat 2 = .ok (.iconst 0, 1) := by decide +kernel
theorem dX2_giveSeat_3 : decode cX2_giveSeat 3 = .ok (.istore_n 3, 1) := by decide +kernel
theorem dX2_giveSeat_4 : decode cX2_giveSeat 4 = .ok (.iload_n 3, 1) := by decide +kernel
theorem dX2_giveSeat_5 : decode cX2_giveSeat 5 = .ok (.aload_n 0, 1) := by decide +kernel
theorem dX2_giveSeat_6 : decode cX2_giveSeat 6 = .ok (.getfield 12, 3) := by decide +kernel
theorem dX2_giveSeat_9 : decode cX2_giveSeat 9 = .ok (.invokevirtual 52, 3) := by decide +kernel
theorem dX2_giveSeat_12 : decode cX2_giveSeat 12 = .ok (.if_icmp .ge 74, 3) := by decide +kernel
theorem dX2_giveSeat_15 : decode cX2_giveSeat 15 = .ok (.aload_n 0, 1) := by decide +kernel
theorem dX2_giveSeat_16 : decode cX2_giveSeat 16 = .ok (.getfield 12, 3) := by decide +kernel
theorem dX2_giveSeat_19 : decode cX2_giveSeat 19 = .ok (.iload_n 3, 1) := by decide +kernel
theorem dX2_giveSeat_20 : decode cX2_giveSeat 20 = .ok (.invokevirtual 129, 3) := by decide +kernel
theorem dX2_giveSeat_23 : decode cX2_giveSeat 23 = .ok (.checkcast 61, 3) := by decide +kernel
theorem dX2_giveSeat_26 : decode cX2_giveSeat 26 = .ok (.astore 4, 2) := by decide +kernel
theorem dX2_giveSeat_28 : decode cX2_giveSeat 28 = .ok (.aload 4, 2) := by decide +kernel
theorem dX2_giveSeat_30 : decode cX2_giveSeat 30 = .ok (.getfield 194, 3) := by decide +kernel
theorem dX2_giveSeat_33 : decode cX2_giveSeat 33 = .ok (.ifCond .eq 21, 3) := by decide +kernel
theorem dX2_giveSeat_36 : decode cX2_giveSeat 36 = .ok (.aload_n 0, 1) := by decide +kernel
theorem dX2_giveSeat_37 : decode cX2_giveSeat 37 = .ok (.aload 4, 2) := by decide +kernel
theorem dX2_giveSeat_39 : decode cX2_giveSeat 39 = .ok (.invokevirtual 222, 3) := by decide +kernel
theorem dX2_giveSeat_42 : decode cX2_giveSeat 42 = .ok (.aload 4, 2) := by decide +kernel
theorem dX2_giveSeat_44 : decode cX2_giveSeat 44 = .ok (.getfield 225, 3) := by decide +kernel
theorem dX2_giveSeat_47 : decode cX2_giveSeat 47 = .ok (.if_icmp .ge 7, 3) := by decide +kernel
theorem dX2_giveSeat_50 : decode cX2_giveSeat 50 = .ok (.iconst 1, 1) := by decide +kernel
theorem dX2_giveSeat_51 : decode cX2_giveSeat 51 = .ok (.goto 4, 3) := by decide +kernel
theorem dX2_giveSeat_54 : decode cX2_giveSeat 54 = .ok (.iconst 0, 1) := by decide +kernel
theorem dX2_giveSeat_55 : decode cX2_giveSeat 55 = .ok (.istore 5, 2) := by decide +kernel
theorem dX2_giveSeat_57 : decode cX2_giveSeat 57 = .ok (.iload 5, 2) := by decide +kernel
theorem dX2_giveSeat_59 : decode cX2_giveSeat 59 = .ok (.ifCond .eq 21, 3) := by decide +kernel
theorem dX2_giveSeat_62 : decode cX2_giveSeat 62 = .ok (.aload_n 2, 1) := by decide +kernel
theorem dX2_giveSeat_63 : decode cX2_giveSeat 63 = .ok (.ifnull 14, 3) := by decide +kernel
theorem dX2_giveSeat_66 : decode cX2_giveSeat 66 = .ok (.aload_n 0, 1) := by decide +kernel
theorem dX2_giveSeat_67 : decode cX2_giveSeat 67 = .ok (.aload_n 1, 1) := by decide +kernel
theorem dX2_giveSeat_68 : decode cX2_giveSeat 68 = .ok (.aload 4, 2) := by decide +kernel
theorem dX2_giveSeat_70 : decode cX2_giveSeat 70 = .ok (.aload_n 2, 1) := by decide +kernel
theorem dX2_giveSeat_71 : decode cX2_giveSeat 71 = .ok (.invokevirtual 304, 3) := by decide +kernel
theorem dX2_giveSeat_74 : decode cX2_giveSeat 74 = .ok (.ifCond .eq 6, 3) := by decide +kernel
theorem dX2_giveSeat_77 : decode cX2_giveSeat 77 = .ok (.aload 4, 2) := by decide +kernel
theorem dX2_giveSeat_79 : decode cX2_giveSeat 79 = .ok (.astore_n 2, 1) := by decide +kernel
theorem dX2_giveSeat_80 : decode cX2_giveSeat 80 = .ok (.iinc 3 1, 3) := by decide +kernel
theorem dX2_giveSeat_83 : decode cX2_giveSeat 83 = .ok (.goto (-79), 3) := by decide +kernel
theorem dX2_giveSeat_86 : decode cX2_giveSeat 86 = .ok (.aload_n 1, 1) := by decide +kernel
theorem dX2_giveSeat_87 : decode cX2_giveSeat 87 = .ok (.aload_n 2, 1) := by decide +kernel
theorem dX2_giveSeat_88 : decode cX2_giveSeat 88 = .ok (.putfield 175, 3) := by decide +kernel
theorem dX2_giveSeat_91 : decode cX2_giveSeat 91 = .ok (.return_, 1) := by decide +kernel
theorem dX2_suitsBetter_0 : decode cX2_suitsBetter 0 = .ok (.aload_n 1, 1) := by decide +kernel
theorem dX2_suitsBetter_1 : decode cX2_suitsBetter 1 = .ok (.getfield 94, 3) := by decide +kernel
theorem dX2_suitsBetter_4 : decode cX2_suitsBetter 4 = .ok (.astore 4, 2) := by decide +kernel
theorem dX2_suitsBetter_6 : decode cX2_suitsBetter 6 = .ok (.aload 4, 2) := by decide +kernel
theorem dX2_suitsBetter_8 : decode cX2_suitsBetter 8 = .ok (.ifnonnull 5, 3) := by decide +kernel
theorem dX2_suitsBetter_11 : decode cX2_suitsBetter 11 = .ok (.iconst 0, 1) := by decide +kernel
theorem dX2_suitsBetter_12 : decode cX2_suitsBetter 12 = .ok (.ireturn, 1) := by decide +kernel
theorem dX2_suitsBetter_13 : decode cX2_suitsBetter 13 = .ok (.aload 4, 2) := by decide +kernel
theorem dX2_suitsBetter_15 : decode cX2_suitsBetter 15 = .ok (.aload_n 3, 1) := by decide +kernel
theorem dX2_suitsBetter_16 : decode cX2_suitsBetter 16 = .ok (.invokevirtual 257, 3) := by decide +kernel
theorem dX2_suitsBetter_19 : decode cX2_suitsBetter 19 = .ok (.aload 4, 2) := by decide +kernel
theorem dX2_suitsBetter_21 : decode cX2_suitsBetter 21 = .ok (.aload_n 2, 1) := by decide +kernel
theorem dX2_suitsBetter_22 : decode cX2_suitsBetter 22 = .ok (.invokevirtual 257, 3) := by decide +kernel
theorem dX2_suitsBetter_25 : decode cX2_suitsBetter 25 = .ok (.isub, 1) := by decide +kernel
theorem dX2_suitsBetter_26 : decode cX2_suitsBetter 26 = .ok (.istore 5, 2) := by decide +kernel
theorem dX2_suitsBetter_28 : decode cX2_suitsBetter 28 = .ok (.iload 5, 2) := by decide +kernel
theorem dX2_suitsBetter_30 : decode cX2_suitsBetter 30 = .ok (.ifCond .eq 14, 3) := by decide +kernel
theorem dX2_suitsBetter_33 : decode cX2_suitsBetter 33 = .ok (.iload 5, 2) := by decide +kernel
theorem dX2_suitsBetter_35 : decode cX2_suitsBetter 35 = .ok (.ifCond .le 7, 3) := by decide +kernel
theorem dX2_suitsBetter_38 : decode cX2_suitsBetter 38 = .ok (.iconst 1, 1) := by decide +kernel
theorem dX2_suitsBetter_39 : decode cX2_suitsBetter 39 = .ok (.goto 4, 3) := by decide +kernel
theorem dX2_suitsBetter_42 : decode cX2_suitsBetter 42 = .ok (.iconst 0, 1) := by decide +kernel
theorem dX2_suitsBetter_43 : decode cX2_suitsBetter 43 = .ok (.ireturn, 1) := by decide +kernel
theorem dX2_suitsBetter_44 : decode cX2_suitsBetter 44 = .ok (.aload_n 0, 1) := by decide +kernel
theorem dX2_suitsBetter_45 : decode cX2_suitsBetter 45 = .ok (.aload_n 1, 1) := by decide +kernel
theorem dX2_suitsBetter_46 : decode cX2_suitsBetter 46 = .ok (.getfield 308, 3) := by decide +kernel
theorem dX2_suitsBetter_49 : decode cX2_suitsBetter 49 = .ok (.aload_n 2, 1) := by decide +kernel
theorem dX2_suitsBetter_50 : decode cX2_suitsBetter 50 = .ok (.invokevirtual 197, 3) := by decide +kernel
theorem dX2_suitsBetter_53 : decode cX2_suitsBetter 53 = .ok (.aload_n 0, 1) := by decide +kernel
theorem dX2_suitsBetter_54 : decode cX2_suitsBetter 54 = .ok (.aload_n 1, 1) := by decide +kernel
theorem dX2_suitsBetter_55 : decode cX2_suitsBetter 55 = .ok (.getfield 308, 3) := by decide +kernel
theorem dX2_suitsBetter_58 : decode cX2_suitsBetter 58 = .ok (.aload_n 3, 1) := by decide +kernel
theorem dX2_suitsBetter_59 : decode cX2_suitsBetter 59 = .ok (.invokevirtual 197, 3) := by decide +kernel
theorem dX2_suitsBetter_62 : decode cX2_suitsBetter 62 = .ok (.if_icmp .le 7, 3) := by decide +kernel
theorem dX2_suitsBetter_65 : decode cX2_suitsBetter 65 = .ok (.iconst 1, 1) := by decide +kernel
theorem dX2_suitsBetter_66 : decode cX2_suitsBetter 66 = .ok (.goto 4, 3) := by decide +kernel
theorem dX2_suitsBetter_69 : decode cX2_suitsBetter 69 = .ok (.iconst 0, 1) := by decide +kernel
theorem dX2_suitsBetter_70 : decode cX2_suitsBetter 70 = .ok (.ireturn, 1) := by decide +kernel
theorem dX2_dropBookings_0 : decode cX2_dropBookings 0 = .ok (.iconst 0, 1) := by decide +kernel
theorem dX2_dropBookings_1 : decode cX2_dropBookings 1 = .ok (.istore_n 1, 1) := by decide +kernel
theorem dX2_dropBookings_2 : decode cX2_dropBookings 2 = .ok (.iload_n 1, 1) := by decide +kernel
theorem dX2_dropBookings_3 : decode cX2_dropBookings 3 = .ok (.aload_n 0, 1) := by decide +kernel
theorem dX2_dropBookings_4 : decode cX2_dropBookings 4 = .ok (.getfield 21, 3) := by decide +kernel
theorem dX2_dropBookings_7 : decode cX2_dropBookings 7 = .ok (.invokevirtual 52, 3) := by decide +kernel
theorem dX2_dropBookings_10 : decode cX2_dropBookings 10 = .ok (.if_icmp .ge 24, 3) := by decide +kernel
theorem dX2_dropBookings_13 : decode cX2_dropBookings 13 = .ok (.aload_n 0, 1) := by decide +kernel
theorem dX2_dropBookings_14 : decode cX2_dropBookings 14 = .ok (.getfield 21, 3) := by decide +kernel
theorem dX2_dropBookings_17 : decode cX2_dropBookings 17 = .ok (.iload_n 1, 1) := by decide +kernel
theorem dX2_dropBookings_18 : decode cX2_dropBookings 18 = .ok (.invokevirtual 129, 3) := by decide +kernel
theorem dX2_dropBookings_21 : decode cX2_dropBookings 21 = .ok (.checkcast 82, 3) := by decide +kernel
theorem dX2_dropBookings_24 : decode cX2_dropBookings 24 = .ok (.aconst_null, 1) := by decide +kernel
theorem dX2_dropBookings_25 : decode cX2_dropBookings 25 = .ok (.putfield 94, 3) := by decide +kernel
theorem dX2_dropBookings_28 : decode cX2_dropBookings 28 = .ok (.iinc 1 1, 3) := by decide +kernel
theorem dX2_dropBookings_31 : decode cX2_dropBookings 31 = .ok (.goto (-29), 3) := by decide +kernel
theorem dX2_dropBookings_34 : decode cX2_dropBookings 34 = .ok (.aload_n 0, 1) := by decide +kernel
theorem dX2_dropBookings_35 : decode cX2_dropBookings 35 = .ok (.getfield 21, 3) := by decide +kernel
theorem dX2_dropBookings_38 : decode cX2_dropBookings 38 = .ok (.invokevirtual 311, 3) := by decide +kernel
theorem dX2_dropBookings_41 : decode cX2_dropBookings 41 = .ok (.return_, 1) := by decide +kernel
theorem dX2_passHourOn_0 : decode cX2_passHourOn 0 = .ok (.aload_n 0, 1) := by decide +kernel
theorem dX2_passHourOn_1 : decode cX2_passHourOn 1 = .ok (.aload_n 1, 1) := by decide +kernel
theorem dX2_passHourOn_2 : decode cX2_passHourOn 2 = .ok (.invokevirtual 314, 3) := by decide +kernel
theorem dX2_passHourOn_5 : decode cX2_passHourOn 5 = .ok (.istore_n 2, 1) := by decide +kernel
theorem dX2_passHourOn_6 : decode cX2_passHourOn 6 = .ok (.aload_n 1, 1) := by decide +kernel
theorem dX2_passHourOn_7 : decode cX2_passHourOn 7 = .ok (.iload_n 2, 1) := by decide +kernel
theorem dX2_passHourOn_8 : decode cX2_passHourOn 8 = .ok (.invokevirtual 317, 3) := by decide +kernel
theorem dX2_passHourOn_11 : decode cX2_passHourOn 11 = .ok (.istore_n 3, 1) := by decide +kernel
theorem dX2_passHourOn_12 : decode cX2_passHourOn 12 = .ok (.aload_n 1, 1) := by decide +kernel
theorem dX2_passHourOn_13 : decode cX2_passHourOn 13 = .ok (.iload_n 2, 1) := by decide +kernel
theorem dX2_passHourOn_14 : decode cX2_passHourOn 14 = .ok (.invokevirtual 320, 3) := by decide +kernel
theorem dX2_passHourOn_17 : decode cX2_passHourOn 17 = .ok (.aload_n 0, 1) := by decide +kernel
theorem dX2_passHourOn_18 : decode cX2_passHourOn 18 = .ok (.dup, 1) := by decide +kernel
theorem dX2_passHourOn_19 : decode cX2_passHourOn 19 = .ok (.getfield 35, 3) := by decide +kernel
theorem dX2_passHourOn_22 : decode cX2_passHourOn 22 = .ok (.iload_n 2, 1) := by decide +kernel
theorem dX2_passHourOn_23 : decode cX2_passHourOn 23 = .ok (.aload_n 1, 1) := by decide +kernel
theorem dX2_passHourOn_24 : decode cX2_passHourOn 24 = .ok (.invokevirtual 323, 3) := by decide +kernel
theorem dX2_passHourOn_27 : decode cX2_passHourOn 27 = .ok (.imul, 1) := by decide +kernel
theorem dX2_passHourOn_28 : decode cX2_passHourOn 28 = .ok (.i2l, 1) := by decide +kernel
theorem dX2_passHourOn_29 : decode cX2_passHourOn 29 = .ok (.ladd, 1) := by decide +kernel
theorem dX2_passHourOn_30 : decode cX2_passHourOn 30 = .ok (.putfield 35, 3) := by decide +kernel
theorem dX2_passHourOn_33 : decode cX2_passHourOn 33 = .ok (.iload_n 3, 1) := by decide +kernel
theorem dX2_passHourOn_34 : decode cX2_passHourOn 34 = .ok (.ireturn, 1) := by decide +kernel
theorem dX2_countPeopleIn_0 : decode cX2_countPeopleIn 0 = .ok (.iconst 0, 1) := by decide +kernel
theorem dX2_countPeopleIn_1 : decode cX2_countPeopleIn 1 = .ok (.istore_n 1, 1) := by decide +kernel
theorem dX2_countPeopleIn_2 : decode cX2_countPeopleIn 2 = .ok (.iconst 0, 1) := by decide +kernel
theorem dX2_countPeopleIn_3 : decode cX2_countPeopleIn 3 = .ok (.istore_n 2, 1) := by decide +kernel
theorem dX2_countPeopleIn_4 : decode cX2_countPeopleIn 4 = .ok (.iload_n 2, 1) := by decide +kernel
theorem dX2_countPeopleIn_5 : decode cX2_countPeopleIn 5 = .ok (.aload_n 0, 1) := by decide +kernel
theorem dX2_countPeopleIn_6 : decode cX2_countPeopleIn 6 = .ok (.getfield 18, 3) := by decide +kernel
theorem dX2_countPeopleIn_9 : decode cX2_countPeopleIn 9 = .ok (.invokevirtual 52, 3) := by decide +kernel
theorem dX2_countPeopleIn_12 : decode cX2_countPeopleIn 12 = .ok (.if_icmp .ge 34, 3) := by decide +kernel
theorem dX2_countPeopleIn_15 : decode cX2_countPeopleIn 15 = .ok (.iload_n 1, 1) := by decide +kernel
theorem dX2_countPeopleIn_16 : decode cX2_countPeopleIn 16 = .ok (.aload_n 0, 1) := by decide +kernel
theorem dX2_countPeopleIn_17 : decode cX2_countPeopleIn 17 = .ok (.getfield 18, 3) := by decide +kernel
theorem dX2_countPeopleIn_20 : decode cX2_countPeopleIn 20 = .ok (.iload_n 2, 1) := by decide +kernel
theorem dX2_countPeopleIn_21 : decode cX2_countPeopleIn 21 = .ok (.invokevirtual 129, 3) := by decide +kernel
theorem dX2_countPeopleIn_24 : decode cX2_countPeopleIn 24 = .ok (.checkcast 82, 3) := by decide +kernel
theorem dX2_countPeopleIn_27 : decode cX2_countPeopleIn 27 = .ok (.getfield 180, 3) := by decide +kernel
theorem dX2_countPeopleIn_30 : decode cX2_countPeopleIn 30 = .ok (.ifCond .eq 7, 3) := by decide +kernel
theorem dX2_countPeopleIn_33 : decode cX2_countPeopleIn 33 = .ok (.iconst 1, 1) := by decide +kernel
theorem dX2_countPeopleIn_34 : decode cX2_countPeopleIn 34 = .ok (.goto 4, 3) := by decide +kernel
theorem dX2_countPeopleIn_37 : decode cX2_countPeopleIn 37 = .ok (.iconst 0, 1) := by decide +kernel
theorem dX2_countPeopleIn_38 : decode cX2_countPeopleIn 38 = .ok (.iadd, 1) := by decide +kernel
theorem dX2_countPeopleIn_39 : decode cX2_countPeopleIn 39 = .ok (.istore_n 1, 1) := by decide +kernel
theorem dX2_countPeopleIn_40 : decode cX2_countPeopleIn 40 = .ok (.iinc 2 1, 3) := by decide +kernel
theorem dX2_countPeopleIn_43 : decode cX2_countPeopleIn 43 = .ok (.goto (-39), 3) := by decide +kernel
theorem dX2_countPeopleIn_46 : decode cX2_countPeopleIn 46 = .ok (.iload_n 1, 1) := by decide +kernel
theorem dX2_countPeopleIn_47 : decode cX2_countPeopleIn 47 = .ok (.ireturn, 1) := by decide +kernel
theorem dX2_countSeatsGivenOn_0 : decode cX2_countSeatsGivenOn 0 = .ok (.iconst 0, 1) := by decide +kernel
theorem dX2_countSeatsGivenOn_1 : decode cX2_countSeatsGivenOn 1 = .ok (.istore_n 2, 1) := by decide +kernel
theorem dX2_countSeatsGivenOn_2 : decode cX2_countSeatsGivenOn 2 = .ok (.iconst 0, 1) := by decide +kernel
theorem dX2_countSeatsGivenOn_3 : decode cX2_countSeatsGivenOn 3 = .ok (.istore_n 3, 1) := by decide +kernel
theorem dX2_countSeatsGivenOn_4 : decode cX2_countSeatsGivenOn 4 = .ok (.iload_n 3, 1) := by decide +kernel
theorem dX2_countSeatsGivenOn_5 : decode cX2_countSeatsGivenOn 5 = .ok (.aload_n 0, 1) := by decide +kernel
theorem dX2_countSeatsGivenOn_6 : decode cX2_countSeatsGivenOn 6 = .ok (.getfield 18, 3) := by decide +kernel
theorem dX2_countSeatsGivenOn_9 : decode cX2_countSeatsGivenOn 9 = .ok (.invokevirtual 52, 3) := by decide +kernel
theorem dX2_countSeatsGivenOn_12 : decode cX2_countSeatsGivenOn 12 = .ok (.if_icmp .ge 35, 3) := by decide +kernel
theorem dX2_countSeatsGivenOn_15 : decode cX2_countSeatsGivenOn 15 = .ok (.iload_n 2, 1) := by decide +kernel
theorem dX2_countSeatsGivenOn_16 : decode cX2_countSeatsGivenOn 16 = .ok (.aload_n 0, 1) := by decide +kernel
theorem dX2_countSeatsGivenOn_17 : decode cX2_countSeatsGivenOn 17 = .ok (.getfield 18, 3) := by decide +kernel
theorem dX2_countSeatsGivenOn_20 : decode cX2_countSeatsGivenOn 20 = .ok (.iload_n 3, 1) := by decide +kernel
theorem dX2_countSeatsGivenOn_21 : decode cX2_countSeatsGivenOn 21 = .ok (.invokevirtual 129, 3) := by decide +kernel
theorem dX2_countSeatsGivenOn_24 : decode cX2_countSeatsGivenOn 24 = .ok (.checkcast 82, 3) := by decide +kernel
theorem dX2_countSeatsGivenOn_27 : decode cX2_countSeatsGivenOn 27 = .ok (.getfield 175, 3) := by decide +kernel
theorem dX2_countSeatsGivenOn_30 : decode cX2_countSeatsGivenOn 30 = .ok (.aload_n 1, 1) := by decide +kernel
theorem dX2_countSeatsGivenOn_31 : decode cX2_countSeatsGivenOn 31 = .ok (.if_acmp .ne 7, 3) := by decide +kernel
theorem dX2_countSeatsGivenOn_34 : decode cX2_countSeatsGivenOn 34 = .ok (.iconst 1, 1) := by decide +kernel
theorem dX2_countSeatsGivenOn_35 : decode cX2_countSeatsGivenOn 35 = .ok (.goto 4, 3) := by decide +kernel
theorem dX2_countSeatsGivenOn_38 : decode cX2_countSeatsGivenOn 38 = .ok (.iconst 0, 1) := by decide +kernel
theorem dX2_countSeatsGivenOn_39 : decode cX2_countSeatsGivenOn 39 = .ok (.iadd, 1) := by decide +kernel
theorem dX2_countSeatsGivenOn_40 : decode cX2_countSeatsGivenOn 40 = .ok (.istore_n 2, 1) := by decide +kernel
theorem dX2_countSeatsGivenOn_41 : decode cX2_countSeatsGivenOn 41 = .ok (.iinc 3 1, 3) := by decide +kernel
theorem dX2_countSeatsGivenOn_44 : decode cX2_countSeatsGivenOn 44 = .ok (.goto (-40), 3) := by decide +kernel
theorem dX2_countSeatsGivenOn_47 : decode cX2_countSeatsGivenOn 47 = .ok (.iload_n 2, 1) := by decide +kernel
theorem dX2_countSeatsGivenOn_48 : decode cX2_countSeatsGivenOn 48 = .ok (.ireturn, 1) := by decide +kernel
theorem dX2_countTeamOn_0 : decode cX2_countTeamOn 0 = .ok (.iconst 0, 1) := by decide +kernel
theorem dX2_countTeamOn_1 : decode cX2_countTeamOn 1 = .ok (.istore_n 3, 1) := by decide +kernel
theorem dX2_countTeamOn_2 : decode cX2_countTeamOn 2 = .ok (.iconst 0, 1) := by decide +kernel
theorem dX2_countTeamOn_3 : decode cX2_countTeamOn 3 = .ok (.istore 4, 2) := by decide +kernel
theorem dX2_countTeamOn_5 : decode cX2_countTeamOn 5 = .ok (.iload 4, 2) := by decide +kernel
theorem dX2_countTeamOn_7 : decode cX2_countTeamOn 7 = .ok (.aload_n 0, 1) := by decide +kernel
theorem dX2_countTeamOn_8 : decode cX2_countTeamOn 8 = .ok (.getfield 18, 3) := by decide +kernel
theorem dX2_countTeamOn_11 : decode cX2_countTeamOn 11 = .ok (.invokevirtual 52, 3) := by decide +kernel
theorem dX2_countTeamOn_14 : decode cX2_countTeamOn 14 = .ok (.if_icmp .ge 49, 3) := by decide +kernel
theorem dX2_countTeamOn_17 : decode cX2_countTeamOn 17 = .ok (.aload_n 0, 1) := by decide +kernel
theorem dX2_countTeamOn_18 : decode cX2_countTeamOn 18 = .ok (.getfield 18, 3) := by decide +kernel
theorem dX2_countTeamOn_21 : decode cX2_countTeamOn 21 = .ok (.iload 4, 2) := by decide +kernel
theorem dX2_countTeamOn_23 : decode cX2_countTeamOn 23 = .ok (.invokevirtual 129, 3) := by decide +kernel
theorem dX2_countTeamOn_26 : decode cX2_countTeamOn 26 = .ok (.checkcast 82, 3) := by decide +kernel
theorem dX2_countTeamOn_29 : decode cX2_countTeamOn 29 = .ok (.astore 5, 2) := by decide +kernel
theorem dX2_countTeamOn_31 : decode cX2_countTeamOn 31 = .ok (.iload_n 3, 1) := by decide +kernel
theorem dX2_countTeamOn_32 : decode cX2_countTeamOn 32 = .ok (.aload 5, 2) := by decide +kernel
theorem dX2_countTeamOn_34 : decode cX2_countTeamOn 34 = .ok (.getfield 175, 3) := by decide +kernel
theorem dX2_countTeamOn_37 : decode cX2_countTeamOn 37 = .ok (.aload_n 2, 1) := by decide +kernel
theorem dX2_countTeamOn_38 : decode cX2_countTeamOn 38 = .ok (.if_acmp .ne 16, 3) := by decide +kernel
theorem dX2_countTeamOn_41 : decode cX2_countTeamOn 41 = .ok (.aload 5, 2) := by decide +kernel
theorem dX2_countTeamOn_43 : decode cX2_countTeamOn 43 = .ok (.getfield 308, 3) := by decide +kernel
theorem dX2_countTeamOn_46 : decode cX2_countTeamOn 46 = .ok (.iload_n 1, 1) := by decide +kernel
theorem dX2_countTeamOn_47 : decode cX2_countTeamOn 47 = .ok (.if_icmp .ne 7, 3) := by decide +kernel
theorem dX2_countTeamOn_50 : decode cX2_countTeamOn 50 = .ok (.iconst 1, 1) := by decide +kernel
theorem dX2_countTeamOn_51 : decode cX2_countTeamOn 51 = .ok (.goto 4, 3) := by decide +kernel
theorem dX2_countTeamOn_54 : decode cX2_countTeamOn 54 = .ok (.iconst 0, 1) := by decide +kernel
theorem dX2_countTeamOn_55 : decode cX2_countTeamOn 55 = .ok (.iadd, 1) := by decide +kernel
theorem dX2_countTeamOn_56 : decode cX2_countTeamOn 56 = .ok (.istore_n 3, 1) := by decide +kernel
theorem dX2_countTeamOn_57 : decode cX2_countTeamOn 57 = .ok (.iinc 4 1, 3) := by decide +kernel
theorem dX2_countTeamOn_60 : decode cX2_countTeamOn 60 = .ok (.goto (-55), 3) := by decide +kernel
theorem dX2_countTeamOn_63 : decode cX2_countTeamOn 63 = .ok (.iload_n 3, 1) := by decide +kernel
theorem dX2_countTeamOn_64 : decode cX2_countTeamOn 64 = .ok (.ireturn, 1) := by decide +kernel
theorem dX2_countPresentOn_0 : decode cX2_countPresentOn 0 = .ok (.iconst 0, 1) := by decide +kernel
theorem dX2_countPresentOn_1 : decode cX2_countPresentOn 1 = .ok (.istore_n 2, 1) := by decide +kernel
theorem dX2_countPresentOn_2 : decode cX2_countPresentOn 2 = .ok (.iconst 0, 1) := by decide +kernel
theorem dX2_countPresentOn_3 : decode cX2_countPresentOn 3 = .ok (.istore_n 3, 1) := by decide +kernel
theorem dX2_countPresentOn_4 : decode cX2_countPresentOn 4 = .ok (.iload_n 3, 1) := by decide +kernel
theorem dX2_countPresentOn_5 : decode cX2_countPresentOn 5 = .ok (.aload_n 0, 1) := by decide +kernel
theorem dX2_countPresentOn_6 : decode cX2_countPresentOn 6 = .ok (.getfield 18, 3) := by decide +kernel
theorem dX2_countPresentOn_9 : decode cX2_countPresentOn 9 = .ok (.invokevirtual 52, 3) := by decide +kernel
theorem dX2_countPresentOn_12 : decode cX2_countPresentOn 12 = .ok (.if_icmp .ge 47, 3) := by decide +kernel
theorem dX2_countPresentOn_15 : decode cX2_countPresentOn 15 = .ok (.aload_n 0, 1) := by decide +kernel
theorem dX2_countPresentOn_16 : decode cX2_countPresentOn 16 = .ok (.getfield 18, 3) := by decide +kernel
theorem dX2_countPresentOn_19 : decode cX2_countPresentOn 19 = .ok (.iload_n 3, 1) := by decide +kernel
theorem dX2_countPresentOn_20 : decode cX2_countPresentOn 20 = .ok (.invokevirtual 129, 3) := by decide +kernel
theorem dX2_countPresentOn_23 : decode cX2_countPresentOn 23 = .ok (.checkcast 82, 3) := by decide +kernel
theorem dX2_countPresentOn_26 : decode cX2_countPresentOn 26 = .ok (.astore 4, 2) := by decide +kernel
theorem dX2_countPresentOn_28 : decode cX2_countPresentOn 28 = .ok (.iload_n 2, 1) := by decide +kernel
theorem dX2_countPresentOn_29 : decode cX2_countPresentOn 29 = .ok (.aload 4, 2) := by decide +kernel
theorem dX2_countPresentOn_31 : decode cX2_countPresentOn 31 = .ok (.getfield 175, 3) := by decide +kernel
theorem dX2_countPresentOn_34 : decode cX2_countPresentOn 34 = .ok (.aload_n 1, 1) := by decide +kernel
theorem dX2_countPresentOn_35 : decode cX2_countPresentOn 35 = .ok (.if_acmp .ne 15, 3) := by decide +kernel
theorem dX2_countPresentOn_38 : decode cX2_countPresentOn 38 = .ok (.aload 4, 2) := by decide +kernel
theorem dX2_countPresentOn_40 : decode cX2_countPresentOn 40 = .ok (.getfield 180, 3) := by decide +kernel
theorem dX2_countPresentOn_43 : decode cX2_countPresentOn 43 = .ok (.ifCond .eq 7, 3) := by decide +kernel
theorem dX2_countPresentOn_46 : decode cX2_countPresentOn 46 = .ok (.iconst 1, 1) := by decide +kernel
theorem dX2_countPresentOn_47 : decode cX2_countPresentOn 47 = .ok (.goto 4, 3) := by decide +kernel
theorem dX2_countPresentOn_50 : decode cX2_countPresentOn 50 = .ok (.iconst 0, 1) := by decide +kernel
theorem dX2_countPresentOn_51 : decode cX2_countPresentOn 51 = .ok (.iadd, 1) := by decide +kernel
theorem dX2_countPresentOn_52 : decode cX2_countPresentOn 52 = .ok (.istore_n 2, 1) := by decide +kernel
theorem dX2_countPresentOn_53 : decode cX2_countPresentOn 53 = .ok (.iinc 3 1, 3) := by decide +kernel
theorem dX2_countPresentOn_56 : decode cX2_countPresentOn 56 = .ok (.goto (-52), 3) := by decide +kernel
theorem dX2_countPresentOn_59 : decode cX2_countPresentOn 59 = .ok (.iload_n 2, 1) := by decide +kernel
theorem dX2_countPresentOn_60 : decode cX2_countPresentOn 60 = .ok (.ireturn, 1) := by decide +kernel
theorem dX2_countGuestsOf_0 : decode cX2_countGuestsOf 0 = .ok (.iconst 0, 1) := by decide +kernel
theorem dX2_countGuestsOf_1 : decode cX2_countGuestsOf 1 = .ok (.istore_n 2, 1) := by decide +kernel
theorem dX2_countGuestsOf_2 : decode cX2_countGuestsOf 2 = .ok (.iconst 0, 1) := by decide +kernel
theorem dX2_countGuestsOf_3 : decode cX2_countGuestsOf 3 = .ok (.istore_n 3, 1) := by decide +kernel
theorem dX2_countGuestsOf_4 : decode cX2_countGuestsOf 4 = .ok (.iload_n 3, 1) := by decide +kernel
theorem dX2_countGuestsOf_5 : decode cX2_countGuestsOf 5 = .ok (.aload_n 0, 1) := by decide +kernel
theorem dX2_countGuestsOf_6 : decode cX2_countGuestsOf 6 = .ok (.getfield 18, 3) := by decide +kernel
theorem dX2_countGuestsOf_9 : decode cX2_countGuestsOf 9 = .ok (.invokevirtual 52, 3) := by decide +kernel
theorem dX2_countGuestsOf_12 : decode cX2_countGuestsOf 12 = .ok (.if_icmp .ge 47, 3) := by decide +kernel
theorem dX2_countGuestsOf_15 : decode cX2_countGuestsOf 15 = .ok (.aload_n 0, 1) := by decide +kernel
theorem dX2_countGuestsOf_16 : decode cX2_countGuestsOf 16 = .ok (.getfield 18, 3) := by decide +kernel
theorem dX2_countGuestsOf_19 : decode cX2_countGuestsOf 19 = .ok (.iload_n 3, 1) := by decide +kernel
theorem dX2_countGuestsOf_20 : decode cX2_countGuestsOf 20 = .ok (.invokevirtual 129, 3) := by decide +kernel
theorem dX2_countGuestsOf_23 : decode cX2_countGuestsOf 23 = .ok (.checkcast 82, 3) := by decide +kernel
theorem dX2_countGuestsOf_26 : decode cX2_countGuestsOf 26 = .ok (.astore 4, 2) := by decide +kernel
theorem dX2_countGuestsOf_28 : decode cX2_countGuestsOf 28 = .ok (.iload_n 2, 1) := by decide +kernel
theorem dX2_countGuestsOf_29 : decode cX2_countGuestsOf 29 = .ok (.aload 4, 2) := by decide +kernel
theorem dX2_countGuestsOf_31 : decode cX2_countGuestsOf 31 = .ok (.getfield 175, 3) := by decide +kernel
theorem dX2_countGuestsOf_34 : decode cX2_countGuestsOf 34 = .ok (.aload_n 1, 1) := by decide +kernel
theorem dX2_countGuestsOf_35 : decode cX2_countGuestsOf 35 = .ok (.if_acmp .ne 15, 3) := by decide +kernel
theorem dX2_countGuestsOf_38 : decode cX2_countGuestsOf 38 = .ok (.aload 4, 2) := by decide +kernel
theorem dX2_countGuestsOf_40 : decode cX2_countGuestsOf 40 = .ok (.getfield 186, 3) := by decide +kernel
theorem dX2_countGuestsOf_43 : decode cX2_countGuestsOf 43 = .ok (.ifCond .eq 7, 3) := by decide +kernel
theorem dX2_countGuestsOf_46 : decode cX2_countGuestsOf 46 = .ok (.iconst 1, 1) := by decide +kernel
theorem dX2_countGuestsOf_47 : decode cX2_countGuestsOf 47 = .ok (.goto 4, 3) := by decide +kernel
theorem dX2_countGuestsOf_50 : decode cX2_countGuestsOf 50 = .ok (.iconst 0, 1) := by decide +kernel
theorem dX2_countGuestsOf_51 : decode cX2_countGuestsOf 51 = .ok (.iadd, 1) := by decide +kernel
theorem dX2_countGuestsOf_52 : decode cX2_countGuestsOf 52 = .ok (.istore_n 2, 1) := by decide +kernel
theorem dX2_countGuestsOf_53 : decode cX2_countGuestsOf 53 = .ok (.iinc 3 1, 3) := by decide +kernel
theorem dX2_countGuestsOf_56 : decode cX2_countGuestsOf 56 = .ok (.goto (-52), 3) := by decide +kernel
theorem dX2_countGuestsOf_59 : decode cX2_countGuestsOf 59 = .ok (.iload_n 2, 1) := by decide +kernel
theorem dX2_countGuestsOf_60 : decode cX2_countGuestsOf 60 = .ok (.ireturn, 1) := by decide +kernel
theorem dX2_peopleAreSound_0 : decode cX2_peopleAreSound 0 = .ok (.iconst 0, 1) := by decide +kernel
theorem dX2_peopleAreSound_1 : decode cX2_peopleAreSound 1 = .ok (.istore_n 1, 1) := by decide +kernel
theorem dX2_peopleAreSound_2 : decode cX2_peopleAreSound 2 = .ok (.iload_n 1, 1) := by decide +kernel
theorem dX2_peopleAreSound_3 : decode cX2_peopleAreSound 3 = .ok (.aload_n 0, 1) := by decide +kernel
theorem dX2_peopleAreSound_4 : decode cX2_peopleAreSound 4 = .ok (.getfield 18, 3) := by decide +kernel
theorem dX2_peopleAreSound_7 : decode cX2_peopleAreSound 7 = .ok (.invokevirtual 52, 3) := by decide +kernel
theorem dX2_peopleAreSound_10 : decode cX2_peopleAreSound 10 = .ok (.if_icmp .ge 58, 3) := by decide +kernel
theorem dX2_peopleAreSound_13 : decode cX2_peopleAreSound 13 = .ok (.aload_n 0, 1) := by decide +kernel
theorem dX2_peopleAreSound_14 : decode cX2_peopleAreSound 14 = .ok (.getfield 18, 3) := by decide +kernel
theorem dX2_peopleAreSound_17 : decode cX2_peopleAreSound 17 = .ok (.iload_n 1, 1) := by decide +kernel
theorem dX2_peopleAreSound_18 : decode cX2_peopleAreSound 18 = .ok (.invokevirtual 129, 3) := by decide +kernel
theorem dX2_peopleAreSound_21 : decode cX2_peopleAreSound 21 = .ok (.checkcast 82, 3) := by decide +kernel
theorem dX2_peopleAreSound_24 : decode cX2_peopleAreSound 24 = .ok (.astore_n 2, 1) := by decide +kernel
theorem dX2_peopleAreSound_25 : decode cX2_peopleAreSound 25 = .ok (.aload_n 2, 1) := by decide +kernel
theorem dX2_peopleAreSound_26 : decode cX2_peopleAreSound 26 = .ok (.getfield 175, 3) := by decide +kernel
theorem dX2_peopleAreSound_29 : decode cX2_peopleAreSound 29 = .ok (.astore_n 3, 1) := by decide +kernel
theorem dX2_peopleAreSound_30 : decode cX2_peopleAreSound 30 = .ok (.aload_n 3, 1) := by decide +kernel
theorem dX2_peopleAreSound_31 : decode cX2_peopleAreSound 31 = .ok (.ifnonnull 18, 3) := by decide +kernel
theorem dX2_peopleAreSound_34 : decode cX2_peopleAreSound 34 = .ok (.aload_n 2, 1) := by decide +kernel
theorem dX2_peopleAreSound_35 : decode cX2_peopleAreSound 35 = .ok (.getfield 180, 3) := by decide +kernel
theorem dX2_peopleAreSound_38 : decode cX2_peopleAreSound 38 = .ok (.ifCond .ne 7, 3) := by decide +kernel
theorem dX2_peopleAreSound_41 : decode cX2_peopleAreSound 41 = .ok (.iconst 1, 1) := by decide +kernel
theorem dX2_peopleAreSound_42 : decode cX2_peopleAreSound 42 = .ok (.goto 11, 3) := by decide +kernel
theorem dX2_peopleAreSound_45 : decode cX2_peopleAreSound 45 = .ok (.iconst 0, 1) := by decide +kernel
theorem dX2_peopleAreSound_46 : decode cX2_peopleAreSound 46 = .ok (.goto 7, 3) := by decide +kernel
theorem dX2_peopleAreSound_49 : decode cX2_peopleAreSound 49 = .ok (.aload_n 3, 1) := by decide +kernel
theorem dX2_peopleAreSound_50 : decode cX2_peopleAreSound 50 = .ok (.getfield 194, 3) := by decide +kernel
theorem dX2_peopleAreSound_53 : decode cX2_peopleAreSound 53 = .ok (.istore 4, 2) := by decide +kernel
theorem dX2_peopleAreSound_55 : decode cX2_peopleAreSound 55 = .ok (.iload 4, 2) := by decide +kernel
theorem dX2_peopleAreSound_57 : decode cX2_peopleAreSound 57 = .ok (.ifCond .ne 5, 3) := by decide +kernel
theorem dX2_peopleAreSound_60 : decode cX2_peopleAreSound 60 = .ok (.iconst 0, 1) := by decide +kernel
theorem dX2_peopleAreSound_61 : decode cX2_peopleAreSound 61 = .ok (.ireturn, 1) := by decide +kernel
theorem dX2_peopleAreSound_62 : decode cX2_peopleAreSound 62 = .ok (.iinc 1 1, 3) := by decide +kernel
theorem dX2_peopleAreSound_65 : decode cX2_peopleAreSound 65 = .ok (.goto (-63), 3) := by decide +kernel
theorem dX2_peopleAreSound_68 : decode cX2_peopleAreSound 68 = .ok (.iconst 1, 1) := by decide +kernel
theorem dX2_peopleAreSound_69 : decode cX2_peopleAreSound 69 = .ok (.ireturn, 1) := by decide +kernel
theorem dX2_floorsAreSound_0 : decode cX2_floorsAreSound 0 = .ok (.iconst 0, 1) := by decide +kernel
theorem dX2_floorsAreSound_1 : decode cX2_floorsAreSound 1 = .ok (.istore_n 1, 1) := by decide +kernel
theorem dX2_floorsAreSound_2 : decode cX2_floorsAreSound 2 = .ok (.iload_n 1, 1) := by decide +kernel
theorem dX2_floorsAreSound_3 : decode cX2_floorsAreSound 3 = .ok (.aload_n 0, 1) := by decide +kernel
theorem dX2_floorsAreSound_4 : decode cX2_floorsAreSound 4 = .ok (.getfield 12, 3) := by decide +kernel
theorem dX2_floorsAreSound_7 : decode cX2_floorsAreSound 7 = .ok (.invokevirtual 52, 3) := by decide +kernel
theorem dX2_floorsAreSound_10 : decode cX2_floorsAreSound 10 = .ok (.if_icmp .ge 35, 3) := by decide +kernel
theorem dX2_floorsAreSound_13 : decode cX2_floorsAreSound 13 = .ok (.aload_n 0, 1) := by decide +kernel
theorem dX2_floorsAreSound_14 : decode cX2_floorsAreSound 14 = .ok (.getfield 12, 3) := by decide +kernel
theorem dX2_floorsAreSound_17 : decode cX2_floorsAreSound 17 = .ok (.iload_n 1, 1) := by decide +kernel
theorem dX2_floorsAreSound_18 : decode cX2_floorsAreSound 18 = .ok (.invokevirtual 129, 3) := by decide +kernel
theorem dX2_floorsAreSound_21 : decode cX2_floorsAreSound 21 = .ok (.checkcast 61, 3) := by decide +kernel
theorem dX2_floorsAreSound_24 : decode cX2_floorsAreSound 24 = .ok (.astore_n 2, 1) := by decide +kernel
theorem dX2_floorsAreSound_25 : decode cX2_floorsAreSound 25 = .ok (.aload_n 0, 1) := by decide +kernel
theorem dX2_floorsAreSound_26 : decode cX2_floorsAreSound 26 = .ok (.aload_n 2, 1) := by decide +kernel
theorem dX2_floorsAreSound_27 : decode cX2_floorsAreSound 27 = .ok (.invokevirtual 222, 3) := by decide +kernel
theorem dX2_floorsAreSound_30 : decode cX2_floorsAreSound 30 = .ok (.aload_n 2, 1) := by decide +kernel
theorem dX2_floorsAreSound_31 : decode cX2_floorsAreSound 31 = .ok (.getfield 225, 3) := by decide +kernel
theorem dX2_floorsAreSound_34 : decode cX2_floorsAreSound 34 = .ok (.if_icmp .le 5, 3) := by decide +kernel
theorem dX2_floorsAreSound_37 : decode cX2_floorsAreSound 37 = .ok (.iconst 0, 1) := by decide +kernel
theorem dX2_floorsAreSound_38 : decode cX2_floorsAreSound 38 = .ok (.ireturn, 1) := by decide +kernel
theorem dX2_floorsAreSound_39 : decode cX2_floorsAreSound 39 = .ok (.iinc 1 1, 3) := by decide +kernel
theorem dX2_floorsAreSound_42 : decode cX2_floorsAreSound 42 = .ok (.goto (-40), 3) := by decide +kernel
theorem dX2_floorsAreSound_45 : decode cX2_floorsAreSound 45 = .ok (.iconst 1, 1) := by decide +kernel
theorem dX2_floorsAreSound_46 : decode cX2_floorsAreSound 46 = .ok (.ireturn, 1) := by decide +kernel
theorem dX3_init_0 : decode cX3_init 0 = .ok (.aload_n 0, 1) := by decide +kernel
theorem dX3_init_1 : decode cX3_init 1 = .ok (.invokespecial 1, 3) := by decide +kernel
theorem dX3_init_4 : decode cX3_init 4 = .ok (.aload_n 0, 1) := by decide +kernel
theorem dX3_init_5 : decode cX3_init 5 = .ok (.bipush 6, 2) := by decide +kernel
theorem dX3_init_7 : decode cX3_init 7 = .ok (.newarray .int, 2) := by decide +kernel
theorem dX3_init_9 : decode cX3_init 9 = .ok (.putfield 7, 3) := by decide +kernel
theorem dX3_init_12 : decode cX3_init 12 = .ok (.aload_n 0, 1) := by decide +kernel
theorem dX3_init_13 : decode cX3_init 13 = .ok (.bipush 6, 2) := by decide +kernel
theorem dX3_init_15 : decode cX3_init 15 = .ok (.newarray .int, 2) := by decide +kernel
theorem dX3_init_17 : decode cX3_init 17 = .ok (.putfield 13, 3) := by decide +kernel
theorem dX3_init_20 : decode cX3_init 20 = .ok (.aload_n 0, 1) := by decide +kernel
theorem dX3_init_21 : decode cX3_init 21 = .ok (.bipush 6, 2) := by decide +kernel
theorem dX3_init_23 : decode cX3_init 23 = .ok (.newarray .int, 2) := by decide +kernel
theorem dX3_init_25 : decode cX3_init 25 = .ok (.putfield 16, 3) := by decide +kernel
theorem dX3_init_28 : decode cX3_init 28 = .ok (.aload_n 0, 1) := by decide +kernel
theorem dX3_init_29 : decode cX3_init 29 = .ok (.bipush 6, 2) := by decide +kernel
theorem dX3_init_31 : decode cX3_init 31 = .ok (.newarray .int, 2) := by decide +kernel
theorem dX3_init_33 : decode cX3_init 33 = .ok (.putfield 19, 3) := by decide +kernel
theorem dX3_init_36 : decode cX3_init 36 = .ok (.aload_n 0, 1) := by decide +kernel
theorem dX3_init_37 : decode cX3_init 37 = .ok (.bipush 6, 2) := by decide +kernel
theorem dX3_init_39 : decode cX3_init 39 = .ok (.newarray .boolean, 2) := by decide +kernel
theorem dX3_init_41 : decode cX3_init 41 = .ok (.putfield 22, 3) := by decide +kernel
theorem dX3_init_44 : decode cX3_init 44 = .ok (.aload_n 0, 1) := by decide +kernel
theorem dX3_init_45 : decode cX3_init 45 = .ok (.bipush 12, 2) := by decide +kernel
theorem dX3_init_47 : decode cX3_init 47 = .ok (.newarray .int, 2) := by decide +kernel
theorem dX3_init_49 : decode cX3_init 49 = .ok (.putfield 26, 3) := by decide +kernel
theorem dX3_init_52 : decode cX3_init 52 = .ok (.aload_n 0, 1) := by decide +kernel
theorem dX3_init_53 : decode cX3_init 53 = .ok (.bipush 12, 2) := by decide +kernel
theorem dX3_init_55 : decode cX3_init 55 = .ok (.newarray .int, 2) := by decide +kernel
theorem dX3_init_57 : decode cX3_init 57 = .ok (.putfield 29, 3) := by decide +kernel
theorem dX3_init_60 : decode cX3_init 60 = .ok (.aload_n 0, 1) := by decide +kernel
theorem dX3_init_61 : decode cX3_init 61 = .ok (.bipush 12, 2) := by decide +kernel
theorem dX3_init_63 : decode cX3_init 63 = .ok (.newarray .int, 2) := by decide +kernel
theorem dX3_init_65 : decode cX3_init 65 = .ok (.putfield 32, 3) := by decide +kernel
theorem dX3_init_68 : decode cX3_init 68 = .ok (.aload_n 0, 1) := by decide +kernel
theorem dX3_init_69 : decode cX3_init 69 = .ok (.bipush 12, 2) := by decide +kernel
theorem dX3_init_71 : decode cX3_init 71 = .ok (.newarray .boolean, 2) := by decide +kernel
theorem dX3_init_73 : decode cX3_init 73 = .ok (.putfield 35, 3) := by decide +kernel
theorem dX3_init_76 : decode cX3_init 76 = .ok (.aload_n 0, 1) := by decide +kernel
theorem dX3_init_77 : decode cX3_init 77 = .ok (.bipush 12, 2) := by decide +kernel
theorem dX3_init_79 : decode cX3_init 79 = .ok (.newarray .boolean, 2) := by decide +kernel
theorem dX3_init_81 : decode cX3_init 81 = .ok (.putfield 38, 3) := by decide +kernel
theorem dX3_init_84 : decode cX3_init 84 = .ok (.aload_n 0, 1) := by decide +kernel
theorem dX3_init_85 : decode cX3_init 85 = .ok (.bipush 12, 2) := by decide +kernel
theorem dX3_init_87 : decode cX3_init 87 = .ok (.newarray .boolean, 2) := by decide +kernel
theorem dX3_init_89 : decode cX3_init 89 = .ok (.putfield 41, 3) := by decide +kernel
theorem dX3_init_92 : decode cX3_init 92 = .ok (.aload_n 0, 1) := by decide +kernel
theorem dX3_init_93 : decode cX3_init 93 = .ok (.bipush 12, 2) := by decide +kernel
theorem dX3_init_95 : decode cX3_init 95 = .ok (.newarray .int, 2) := by decide +kernel
theorem dX3_init_97 : decode cX3_init 97 = .ok (.putfield 44, 3) := by decide +kernel
theorem dX3_init_100 : decode cX3_init 100 = .ok (.aload_n 0, 1) := by decide +kernel
theorem dX3_init_101 : decode cX3_init 101 = .ok (.bipush 12, 2) := by decide +kernel
theorem dX3_init_103 : decode cX3_init 103 = .ok (.newarray .int, 2) := by decide +kernel
theorem dX3_init_105 : decode cX3_init 105 = .ok (.putfield 47, 3) := by decide +kernel
theorem dX3_init_108 : decode cX3_init 108 = .ok (.return_, 1) := by decide +kernel
theorem dX3_thrown_0 : decode cX3_thrown 0 = .ok (.aload_n 0, 1) := by decide +kernel
theorem dX3_thrown_1 : decode cX3_thrown 1 = .ok (.getfield 50, 3) := by decide +kernel
theorem dX3_thrown_4 : decode cX3_thrown 4 = .ok (.ireturn, 1) := by decide +kernel
theorem dX3_in_0 : decode cX3_in 0 = .ok (.iload_n 0, 1) := by decide +kernel
theorem dX3_in_1 : decode cX3_in 1 = .ok (.iload_n 1, 1) := by decide +kernel
theorem dX3_in_2 : decode cX3_in 2 = .ok (.if_icmp .lt 12, 3) := by decide +kernel
theorem dX3_in_5 : decode cX3_in 5 = .ok (.iload_n 0, 1) := by decide +kernel
theorem dX3_in_6 : decode cX3_in 6 = .ok (.iload_n 2, 1) := by decide +kernel
theorem dX3_in_7 : decode cX3_in 7 = .ok (.if_icmp .gt 7, 3) := by decide +kernel
theorem dX3_in_10 : decode cX3_in 10 = .ok (.iconst 1, 1) := by decide +kernel
theorem dX3_in_11 : decode cX3_in 11 = .ok (.goto 4, 3) := by decide +kernel
theorem dX3_in_14 : decode cX3_in 14 = .ok (.iconst 0, 1) := by decide +kernel
theorem dX3_in_15 : decode cX3_in 15 = .ok (.ireturn, 1) := by decide +kernel
theorem dX3_fails_0 : decode cX3_fails 0 = .ok (.aload_n 0, 1) := by decide +kernel
theorem dX3_fails_1 : decode cX3_fails 1 = .ok (.iload_n 1, 1) := by decide +kernel
theorem dX3_fails_2 : decode cX3_fails 2 = .ok (.putfield 50, 3) := by decide +kernel
theorem dX3_fails_5 : decode cX3_fails 5 = .ok (.iconst 0, 1) := by decide +kernel
theorem dX3_fails_6 : decode cX3_fails 6 = .ok (.ireturn, 1) := by decide +kernel
theorem dX3_tells_0 : decode cX3_tells 0 = .ok (.aload_n 0, 1) := by decide +kernel
theorem dX3_tells_1 : decode cX3_tells 1 = .ok (.iconst 0, 1) := by decide +kernel
theorem dX3_tells_2 : decode cX3_tells 2 = .ok (.putfield 50, 3) := by decide +kernel
theorem dX3_tells_5 : decode cX3_tells 5 = .ok (.iload_n 1, 1) := by decide +kernel
theorem dX3_tells_6 : decode cX3_tells 6 = .ok (.ireturn, 1) := by decide +kernel
theorem dX3_asks_0 : decode cX3_asks 0 = .ok (.aload_n 0, 1) := by decide +kernel
theorem dX3_asks_1 : decode cX3_asks 1 = .ok (.iload_n 1, 1) := by decide +kernel
theorem dX3_asks_2 : decode cX3_asks 2 = .ok (.putfield 50, 3) := by decide +kernel
theorem dX3_asks_5 : decode cX3_asks 5 = .ok (.iload_n 1, 1) := by decide +kernel
theorem dX3_asks_6 : decode cX3_asks 6 = .ok (.ifCond .ne 11, 3) := by decide +kernel
theorem dX3_asks_9 : decode cX3_asks 9 = .ok (.iload_n 2, 1) := by decide +kernel
theorem dX3_asks_10 : decode cX3_asks 10 = .ok (.ifCond .eq 7, 3) := by decide +kernel
theorem dX3_asks_13 : decode cX3_asks 13 = .ok (.iconst 1, 1) := by decide +kernel
theorem dX3_asks_14 : decode cX3_asks 14 = .ok (.goto 4, 3) := by decide +kernel
theorem dX3_asks_17 : decode cX3_asks 17 = .ok (.iconst 0, 1) := by decide +kernel
theorem dX3_asks_18 : decode cX3_asks 18 = .ok (.ireturn, 1) := by decide +kernel
theorem dX3_isFloor_0 : decode cX3_isFloor 0 = .ok (.iload_n 1, 1) := by decide +kernel
theorem dX3_isFloor_1 : decode cX3_isFloor 1 = .ok (.iconst 0, 1) := by decide +kernel
theorem dX3_isFloor_2 : decode cX3_isFloor 2 = .ok (.aload_n 0, 1) := by decide +kernel
theorem dX3_isFloor_3 : decode cX3_isFloor 3 = .ok (.getfield 54, 3) := by decide +kernel
theorem dX3_isFloor_6 : decode cX3_isFloor 6 = .ok (.iconst 1, 1) := by decide +kernel
theorem dX3_isFloor_7 : decode cX3_isFloor 7 = .ok (.isub, 1) := by decide +kernel
theorem dX3_isFloor_8 : decode cX3_isFloor 8 = .ok (.invokestatic 57, 3) := by decide +kernel
theorem dX3_isFloor_11 : decode cX3_isFloor 11 = .ok (.ireturn, 1) := by decide +kernel
theorem dX3_isPerson_0 : decode cX3_isPerson 0 = .ok (.iload_n 1, 1) := by decide +kernel
theorem dX3_isPerson_1 : decode cX3_isPerson 1 = .ok (.iconst 0, 1) := by decide +kernel
theorem dX3_isPerson_2 : decode cX3_isPerson 2 = .ok (.aload_n 0, 1) := by decide +kernel
theorem dX3_isPerson_3 : decode cX3_isPerson 3 = .ok (.getfield 61, 3) := by decide +kernel
theorem dX3_isPerson_6 : decode cX3_isPerson 6 = .ok (.iconst 1, 1) := by decide +kernel
theorem dX3_isPerson_7 : decode cX3_isPerson 7 = .ok (.isub, 1) := by decide +kernel
theorem dX3_isPerson_8 : decode cX3_isPerson 8 = .ok (.invokestatic 57, 3) := by decide +kernel
theorem dX3_isPerson_11 : decode cX3_isPerson 11 = .ok (.ireturn, 1) := by decide +kernel
theorem dX3_addFloor_0 : decode cX3_addFloor 0 = .ok (.iload_n 1, 1) := by decide +kernel
theorem dX3_addFloor_1 : decode cX3_addFloor 1 = .ok (.iconst 1, 1) := by decide +kernel
theorem dX3_addFloor_2 : decode cX3_addFloor 2 = .ok (.bipush 12, 2) := by decide +kernel
theorem dX3_addFloor_4 : decode cX3_addFloor 4 = .ok (.invokestatic 57, 3) := by decide +kernel
theorem dX3_addFloor_7 : decode cX3_addFloor 7 = .ok (.ifCond .eq 13, 3) := by decide +kernel
theorem dX3_addFloor_10 : decode cX3_addFloor 10 = .ok (.iload_n 2, 1) := by decide +kernel
theorem dX3_addFloor_11 : decode cX3_addFloor 11 = .ok (.iconst 0, 1) := by decide +kernel
theorem dX3_addFloor_12 : decode cX3_addFloor 12 = .ok (.bipush 99, 2) := by decide +kernel
theorem dX3_addFloor_14 : decode cX3_addFloor 14 = .ok (.invokestatic 57, 3) := by decide +kernel
theorem dX3_addFloor_17 : decode cX3_addFloor 17 = .ok (.ifCond .ne 9, 3) := by decide +kernel
theorem dX3_addFloor_20 : decode cX3_addFloor 20 = .ok (.aload_n 0, 1) := by decide +kernel
theorem dX3_addFloor_21 : decode cX3_addFloor 21 = .ok (.iconst 1, 1) := by decide +kernel
theorem dX3_addFloor_22 : decode cX3_addFloor 22 = .ok (.invokevirtual 64, 3) := by decide +kernel
theorem dX3_addFloor_25 : decode cX3_addFloor 25 = .ok (.ireturn, 1) := by decide +kernel
theorem dX3_addFloor_26 : decode cX3_addFloor 26 = .ok (.aload_n 0, 1) := by decide +kernel
theorem dX3_addFloor_27 : decode cX3_addFloor 27 = .ok (.getfield 54, 3) := by decide +kernel
theorem dX3_addFloor_30 : decode cX3_addFloor 30 = .ok (.bipush 6, 2) := by decide +kernel
theorem dX3_addFloor_32 : decode cX3_addFloor 32 = .ok (.if_icmp .ne 9, 3) := by decide +kernel
theorem dX3_addFloor_35 : decode cX3_addFloor 35 = .ok (.aload_n 0, 1) := by decide +kernel
theorem dX3_addFloor_36 : decode cX3_addFloor 36 = .ok (.iconst 2, 1) := by decide +kernel
theorem dX3_addFloor_37 : decode cX3_addFloor 37 = .ok (.invokevirtual 64, 3) := by decide +kernel
theorem dX3_addFloor_40 : decode cX3_addFloor 40 = .ok (.ireturn, 1) := by decide +kernel
theorem dX3_addFloor_41 : decode cX3_addFloor 41 = .ok (.aload_n 0, 1) := by decide +kernel
theorem dX3_addFloor_42 : decode cX3_addFloor 42 = .ok (.getfield 7, 3) := by decide +kernel
theorem dX3_addFloor_45 : decode cX3_addFloor 45 = .ok (.aload_n 0, 1) := by decide +kernel
theorem dX3_addFloor_46 : decode cX3_addFloor 46 = .ok (.getfield 54, 3) := by decide +kernel
theorem dX3_addFloor_49 : decode cX3_addFloor 49 = .ok (.iload_n 1, 1) := by decide +kernel
theorem dX3_addFloor_50 : decode cX3_addFloor 50 = .ok (.iastore, 1) := by decide +kernel
theorem dX3_addFloor_51 : decode cX3_addFloor 51 = .ok (.aload_n 0, 1) := by decide +kernel
theorem dX3_addFloor_52 : decode cX3_addFloor 52 = .ok (.getfield 13, 3) := by decide +kernel
theorem dX3_addFloor_55 : decode cX3_addFloor 55 = .ok (.aload_n 0, 1) := by decide +kernel
theorem dX3_addFloor_56 : decode cX3_addFloor 56 = .ok (.getfield 54, 3) := by decide +kernel
theorem dX3_addFloor_59 : decode cX3_addFloor 59 = .ok (.iload_n 2, 1) := by decide +kernel
theorem dX3_addFloor_60 : decode cX3_addFloor 60 = .ok (.iastore, 1) := by decide +kernel
theorem dX3_addFloor_61 : decode cX3_addFloor 61 = .ok (.aload_n 0, 1) := by decide +kernel
theorem dX3_addFloor_62 : decode cX3_addFloor 62 = .ok (.getfield 16, 3) := by decide +kernel
theorem dX3_addFloor_65 : decode cX3_addFloor 65 = .ok (.aload_n 0, 1) := by decide +kernel
theorem dX3_addFloor_66 : decode cX3_addFloor 66 = .ok (.getfield 54, 3) := by decide +kernel
theorem dX3_addFloor_69 : decode cX3_addFloor 69 = .ok (.sipush 180, 3) := by decide +kernel
theorem dX3_addFloor_72 : decode cX3_addFloor 72 = .ok (.iastore, 1) := by decide +kernel
theorem dX3_addFloor_73 : decode cX3_addFloor 73 = .ok (.aload_n 0, 1) := by decide +kernel
theorem dX3_addFloor_74 : decode cX3_addFloor 74 = .ok (.getfield 19, 3) := by decide +kernel
theorem dX3_addFloor_77 : decode cX3_addFloor 77 = .ok (.aload_n 0, 1) := by decide +kernel
theorem dX3_addFloor_78 : decode cX3_addFloor 78 = .ok (.getfield 54, 3) := by decide +kernel
theorem dX3_addFloor_81 : decode cX3_addFloor 81 = .ok (.sipush 400, 3) := by decide +kernel
theorem dX3_addFloor_84 : decode cX3_addFloor 84 = .ok (.iastore, 1) := by decide +kernel
theorem dX3_addFloor_85 : decode cX3_addFloor 85 = .ok (.aload_n 0, 1) := by decide +kernel
theorem dX3_addFloor_86 : decode cX3_addFloor 86 = .ok (.dup, 1) := by decide +kernel
theorem dX3_addFloor_87 : decode cX3_addFloor 87 = .ok (.getfield 54, 3) := by decide +kernel
theorem dX3_addFloor_90 : decode cX3_addFloor 90 = .ok (.iconst 1, 1) := by decide +kernel
theorem dX3_addFloor_91 : decode cX3_addFloor 91 = .ok (.iadd, 1) := by decide +kernel
theorem dX3_addFloor_92 : decode cX3_addFloor 92 = .ok (.putfield 54, 3) := by decide +kernel
theorem dX3_addFloor_95 : decode cX3_addFloor 95 = .ok (.aload_n 0, 1) := by decide +kernel
theorem dX3_addFloor_96 : decode cX3_addFloor 96 = .ok (.aload_n 0, 1) := by decide +kernel
theorem dX3_addFloor_97 : decode cX3_addFloor 97 = .ok (.getfield 54, 3) := by decide +kernel
theorem dX3_addFloor_100 : decode cX3_addFloor 100 = .ok (.iconst 1, 1) := by decide +kernel
theorem dX3_addFloor_101 : decode cX3_addFloor 101 = .ok (.isub, 1) := by decide +kernel
theorem dX3_addFloor_102 : decode cX3_addFloor 102 = .ok (.invokevirtual 68, 3) := by decide +kernel
theorem dX3_addFloor_105 : decode cX3_addFloor 105 = .ok (.ireturn, 1) := by decide +kernel
theorem dX3_setCost_0 : decode cX3_setCost 0 = .ok (.aload_n 0, 1) := by decide +kernel
theorem dX3_setCost_1 : decode cX3_setCost 1 = .ok (.iload_n 1, 1) := by decide +kernel
theorem dX3_setCost_2 : decode cX3_setCost 2 = .ok (.invokevirtual 71, 3) := by decide +kernel
theorem dX3_setCost_5 : decode cX3_setCost 5 = .ok (.ifCond .ne 9, 3) := by decide +kernel
theorem dX3_setCost_8 : decode cX3_setCost 8 = .ok (.aload_n 0, 1) := by decide +kernel
theorem dX3_setCost_9 : decode cX3_setCost 9 = .ok (.iconst 1, 1) := by decide +kernel
theorem dX3_setCost_10 : decode cX3_setCost 10 = .ok (.invokevirtual 64, 3) := by decide +kernel
theorem dX3_setCost_13 : decode cX3_setCost 13 = .ok (.ireturn, 1) := by decide +kernel
theorem dX3_setCost_14 : decode cX3_setCost 14 = .ok (.iload_n 2, 1) := by decide +kernel
theorem dX3_setCost_15 : decode cX3_setCost 15 = .ok (.iconst 0, 1) := by decide +kernel
theorem dX3_setCost_16 : decode cX3_setCost 16 = .ok (.bipush 99, 2) := by decide +kernel
theorem dX3_setCost_18 : decode cX3_setCost 18 = .ok (.invokestatic 57, 3) := by decide +kernel
theorem dX3_setCost_21 : decode cX3_setCost 21 = .ok (.ifCond .ne 9, 3) := by decide +kernel
theorem dX3_setCost_24 : decode cX3_setCost 24 = .ok (.aload_n 0, 1) := by decide +kernel
theorem dX3_setCost_25 : decode cX3_setCost 25 = .ok (.iconst 2, 1) := by decide +kernel
theorem dX3_setCost_26 : decode cX3_setCost 26 = .ok (.invokevirtual 64, 3) := by decide +kernel
theorem dX3_setCost_29 : decode cX3_setCost 29 = .ok (.ireturn, 1) := by decide +kernel
theorem dX3_setCost_30 : decode cX3_setCost 30 = .ok (.aload_n 0, 1) := by decide +kernel
theorem dX3_setCost_31 : decode cX3_setCost 31 = .ok (.getfield 13, 3) := by decide +kernel
theorem dX3_setCost_34 : decode cX3_setCost 34 = .ok (.iload_n 1, 1) := by decide +kernel
theorem dX3_setCost_35 : decode cX3_setCost 35 = .ok (.iaload, 1) := by decide +kernel
theorem dX3_setCost_36 : decode cX3_setCost 36 = .ok (.istore_n 3, 1) := by decide +kernel
theorem dX3_setCost_37 : decode cX3_setCost 37 = .ok (.aload_n 0, 1) := by decide +kernel
theorem dX3_setCost_38 : decode cX3_setCost 38 = .ok (.getfield 13, 3) := by decide +kernel
theorem dX3_setCost_41 : decode cX3_setCost 41 = .ok (.iload_n 1, 1) := by decide +kernel
theorem dX3_setCost_42 : decode cX3_setCost 42 = .ok (.iload_n 2, 1) := by decide +kernel
theorem dX3_setCost_43 : decode cX3_setCost 43 = .ok (.iastore, 1) := by decide +kernel
theorem dX3_setCost_44 : decode cX3_setCost 44 = .ok (.aload_n 0, 1) := by decide +kernel
theorem dX3_setCost_45 : decode cX3_setCost 45 = .ok (.iload_n 3, 1) := by decide +kernel
theorem dX3_setCost_46 : decode cX3_setCost 46 = .ok (.invokevirtual 68, 3) := by decide +kernel
theorem dX3_setCost_49 : decode cX3_setCost 49 = .ok (.ireturn, 1) := by decide +kernel
theorem dX3_addPerson_0 : decode cX3_addPerson 0 = .ok (.iload_n 1, 1) := by decide +kernel
theorem dX3_addPerson_1 : decode cX3_addPerson 1 = .ok (.iconst 0, 1) := by decide +kernel
theorem dX3_addPerson_2 : decode cX3_addPerson 2 = .ok (.iconst 3, 1) := by decide +kernel
theorem dX3_addPerson_3 : decode cX3_addPerson 3 = .ok (.invokestatic 57, 3) := by decide +kernel
theorem dX3_addPerson_6 : decode cX3_addPerson 6 = .ok (.ifCond .ne 9, 3) := by decide +kernel
theorem dX3_addPerson_9 : decode cX3_addPerson 9 = .ok (.aload_n 0, 1) := by decide +kernel
theorem dX3_addPerson_10 : decode cX3_addPerson 10 = .ok (.iconst 1, 1) := by decide +kernel
theorem dX3_addPerson_11 : decode cX3_addPerson 11 = .ok (.invokevirtual 64, 3) := by decide +kernel
theorem dX3_addPerson_14 : decode cX3_addPerson 14 = .ok (.ireturn, 1) := by decide +kernel
theorem dX3_addPerson_15 : decode cX3_addPerson 15 = .ok (.aload_n 0, 1) := by decide +kernel
theorem dX3_addPerson_16 : decode cX3_addPerson 16 = .ok (.getfield 61, 3) := by decide +kernel
theorem dX3_addPerson_19 : decode cX3_addPerson 19 = .ok (.bipush 12, 2) := by decide +kernel
theorem dX3_addPerson_21 : decode cX3_addPerson 21 = .ok (.if_icmp .ne 9, 3) := by decide +kernel
theorem dX3_addPerson_24 : decode cX3_addPerson 24 = .ok (.aload_n 0, 1) := by decide +kernel
theorem dX3_addPerson_25 : decode cX3_addPerson 25 = .ok (.iconst 2, 1) := by decide +kernel
theorem dX3_addPerson_26 : decode cX3_addPerson 26 = .ok (.invokevirtual 64, 3) := by decide +kernel
theorem dX3_addPerson_29 : decode cX3_addPerson 29 = .ok (.ireturn, 1) := by decide +kernel
theorem dX3_addPerson_30 : decode cX3_addPerson 30 = .ok (.aload_n 0, 1) := by decide +kernel
theorem dX3_addPerson_31 : decode cX3_addPerson 31 = .ok (.getfield 26, 3) := by decide +kernel
theorem dX3_addPerson_34 : decode cX3_addPerson 34 = .ok (.aload_n 0, 1) := by decide +kernel
theorem dX3_addPerson_35 : decode cX3_addPerson 35 = .ok (.getfield 61, 3) := by decide +kernel
theorem dX3_addPerson_38 : decode cX3_addPerson 38 = .ok (.iload_n 1, 1) := by decide +kernel
theorem dX3_addPerson_39 : decode cX3_addPerson 39 = .ok (.iastore, 1) := by decide +kernel
theorem dX3_addPerson_40 : decode cX3_addPerson 40 = .ok (.aload_n 0, 1) := by decide +kernel
theorem dX3_addPerson_41 : decode cX3_addPerson 41 = .ok (.getfield 29, 3) := by decide +kernel
theorem dX3_addPerson_44 : decode cX3_addPerson 44 = .ok (.aload_n 0, 1) := by decide +kernel
theorem dX3_addPerson_45 : decode cX3_addPerson 45 = .ok (.getfield 61, 3) := by decide +kernel
theorem dX3_addPerson_48 : decode cX3_addPerson 48 = .ok (.iconst 5, 1) := by decide +kernel
theorem dX3_addPerson_49 : decode cX3_addPerson 49 = .ok (.iastore, 1) := by decide +kernel
theorem dX3_addPerson_50 : decode cX3_addPerson 50 = .ok (.aload_n 0, 1) := by decide +kernel
theorem dX3_addPerson_51 : decode cX3_addPerson 51 = .ok (.getfield 32, 3) := by decide +kernel
theorem dX3_addPerson_54 : decode cX3_addPerson 54 = .ok (.aload_n 0, 1) := by decide +kernel
theorem dX3_addPerson_55 : decode cX3_addPerson 55 = .ok (.getfield 61, 3) := by decide +kernel
theorem dX3_addPerson_58 : decode cX3_addPerson 58 = .ok (.iconst (-1), 1) := by decide +kernel
theorem dX3_addPerson_59 : decode cX3_addPerson 59 = .ok (.iastore, 1) := by decide +kernel
theorem dX3_addPerson_60 : decode cX3_addPerson 60 = .ok (.aload_n 0, 1) := by decide +kernel
theorem dX3_addPerson_61 : decode cX3_addPerson 61 = .ok (.dup, 1) := by decide +kernel
theorem dX3_addPerson_62 : decode cX3_addPerson 62 = .ok (.getfield 61, 3) := by decide +kernel
theorem dX3_addPerson_65 : decode cX3_addPerson 65 = .ok (.iconst 1, 1) := by decide +kernel
theorem dX3_addPerson_66 : decode cX3_addPerson 66 = .ok (.iadd, 1) := by decide +kernel
theorem dX3_addPerson_67 : decode cX3_addPerson 67 = .ok (.putfield 61, 3) := by decide +kernel
theorem dX3_addPerson_70 : decode cX3_addPerson 70 = .ok (.aload_n 0, 1) := by decide +kernel
theorem dX3_addPerson_71 : decode cX3_addPerson 71 = .ok (.aload_n 0, 1) := by decide +kernel
theorem dX3_addPerson_72 : decode cX3_addPerson 72 = .ok (.getfield 61, 3) := by decide +kernel
theorem dX3_addPerson_75 : decode cX3_addPerson 75 = .ok (.iconst 1, 1) := by decide +kernel
theorem dX3_addPerson_76 : decode cX3_addPerson 76 = .ok (.isub, 1) := by decide +kernel
theorem dX3_addPerson_77 : decode cX3_addPerson 77 = .ok (.invokevirtual 68, 3) := by decide +kernel
theorem dX3_addPerson_80 : decode cX3_addPerson 80 = .ok (.ireturn, 1) := by decide +kernel
theorem dX3_standing_0 : decode cX3_standing 0 = .ok (.aload_n 0, 1) := by decide +kernel
theorem dX3_standing_1 : decode cX3_standing 1 = .ok (.iload_n 1, 1) := by decide +kernel
theorem dX3_standing_2 : decode cX3_standing 2 = .ok (.invokevirtual 75, 3) := by decide +kernel
theorem dX3_standing_5 : decode cX3_standing 5 = .ok (.ifCond .eq 16, 3) := by decide +kernel
theorem dX3_standing_8 : decode cX3_standing 8 = .ok (.aload_n 0, 1) := by decide +kernel
theorem dX3_standing_9 : decode cX3_standing 9 = .ok (.aload_n 0, 1) := by decide +kernel
theorem dX3_standing_10 : decode cX3_standing 10 = .ok (.getfield 29, 3) := by decide +kernel
theorem dX3_standing_13 : decode cX3_standing 13 = .ok (.iload_n 1, 1) := by decide +kernel
theorem dX3_standing_14 : decode cX3_standing 14 = .ok (.iaload, 1) := by decide +kernel
theorem dX3_standing_15 : decode cX3_standing 15 = .ok (.invokevirtual 68, 3) := by decide +kernel
theorem dX3_standing_18 : decode cX3_standing 18 = .ok (.goto 8, 3) := by decide +kernel
theorem dX3_standing_21 : decode cX3_standing 21 = .ok (.aload_n 0, 1) := by decide +kernel
theorem dX3_standing_22 : decode cX3_standing 22 = .ok (.iconst 1, 1) := by decide +kernel
theorem dX3_standing_23 : decode cX3_standing 23 = .ok (.invokevirtual 64, 3) := by decide +kernel
theorem dX3_standing_26 : decode cX3_standing 26 = .ok (.ireturn, 1) := by decide +kernel
theorem dX3_bookingOf_0 : decode cX3_bookingOf 0 = .ok (.iconst 0, 1) := by decide +kernel
theorem dX3_bookingOf_1 : decode cX3_bookingOf 1 = .ok (.istore_n 2, 1) := by decide +kernel
theorem dX3_bookingOf_2 : decode cX3_bookingOf 2 = .ok (.iload_n 2, 1) := by decide +kernel
theorem dX3_bookingOf_3 : decode cX3_bookingOf 3 = .ok (.aload_n 0, 1) := by decide +kernel
theorem dX3_bookingOf_4 : decode cX3_bookingOf 4 = .ok (.getfield 78, 3) := by decide +kernel
theorem dX3_bookingOf_7 : decode cX3_bookingOf 7 = .ok (.if_icmp .ge 21, 3) := by decide +kernel
theorem dX3_bookingOf_10 : decode cX3_bookingOf 10 = .ok (.aload_n 0, 1) := by decide +kernel
theorem dX3_bookingOf_11 : decode cX3_bookingOf 11 = .ok (.getfield 44, 3) := by decide +kernel
theorem dX3_bookingOf_14 : decode cX3_bookingOf 14 = .ok (.iload_n 2, 1) := by decide +kernel
theorem dX3_bookingOf_15 : decode cX3_bookingOf 15 = .ok (.iaload, 1) := by decide +kernel
theorem dX3_bookingOf_16 : decode cX3_bookingOf 16 = .ok (.iload_n 1, 1) := by decide +kernel
theorem dX3_bookingOf_17 : decode cX3_bookingOf 17 = .ok (.if_icmp .ne 5, 3) := by decide +kernel
theorem dX3_bookingOf_20 : decode cX3_bookingOf 20 = .ok (.iload_n 2, 1) := by decide +kernel
theorem dX3_bookingOf_21 : decode cX3_bookingOf 21 = .ok (.ireturn, 1) := by decide +kernel
theorem dX3_bookingOf_22 : decode cX3_bookingOf 22 = .ok (.iinc 2 1, 3) := by decide +kernel
theorem dX3_bookingOf_25 : decode cX3_bookingOf 25 = .ok (.goto (-23), 3) := by decide +kernel
theorem dX3_bookingOf_28 : decode cX3_bookingOf 28 = .ok (.iconst (-1), 1) := by decide +kernel
theorem dX3_bookingOf_29 : decode cX3_bookingOf 29 = .ok (.ireturn, 1) := by decide +kernel
theorem dX3_seatsIn_0 : decode cX3_seatsIn 0 = .ok (.iconst 0, 1) := by decide +kernel
theorem dX3_seatsIn_1 : decode cX3_seatsIn 1 = .ok (.istore_n 2, 1) := by decide +kernel
theorem dX3_seatsIn_2 : decode cX3_seatsIn 2 = .ok (.iconst 0, 1) := by decide +kernel
theorem dX3_seatsIn_3 : decode cX3_seatsIn 3 = .ok (.istore_n 3, 1) := by decide +kernel
theorem dX3_seatsIn_4 : decode cX3_seatsIn 4 = .ok (.iload_n 3, 1) := by decide +kernel
theorem dX3_seatsIn_5 : decode cX3_seatsIn 5 = .ok (.aload_n 0, 1) := by decide +kernel
theorem dX3_seatsIn_6 : decode cX3_seatsIn 6 = .ok (.getfield 54, 3) := by decide +kernel
theorem dX3_seatsIn_9 : decode cX3_seatsIn 9 = .ok (.if_icmp .ge 31, 3) := by decide +kernel
theorem dX3_seatsIn_12 : decode cX3_seatsIn 12 = .ok (.iload_n 2, 1) := by decide +kernel
theorem dX3_seatsIn_13 : decode cX3_seatsIn 13 = .ok (.iload_n 1, 1) := by decide +kernel
theorem dX3_seatsIn_14 : decode cX3_seatsIn 14 = .ok (.iload_n 3, 1) := by decide +kernel
theorem dX3_seatsIn_15 : decode cX3_seatsIn 15 = .ok (.ishr, 1) := by decide +kernel
theorem dX3_seatsIn_16 : decode cX3_seatsIn 16 = .ok (.iconst 1, 1) := by decide +kernel
theorem dX3_seatsIn_17 : decode cX3_seatsIn 17 = .ok (.iand, 1) := by decide +kernel
theorem dX3_seatsIn_18 : decode cX3_seatsIn 18 = .ok (.iconst 1, 1) := by decide +kernel
theorem dX3_seatsIn_19 : decode cX3_seatsIn 19 = .ok (.if_icmp .ne 12, 3) := by decide +kernel
theorem dX3_seatsIn_22 : decode cX3_seatsIn 22 = .ok (.aload_n 0, 1) := by decide +kernel
theorem dX3_seatsIn_23 : decode cX3_seatsIn 23 = .ok (.getfield 7, 3) := by decide +kernel
theorem dX3_seatsIn_26 : decode cX3_seatsIn 26 = .ok (.iload_n 3, 1) := by decide +kernel
theorem dX3_seatsIn_27 : decode cX3_seatsIn 27 = .ok (.iaload, 1) := by decide +kernel
theorem dX3_seatsIn_28 : decode cX3_seatsIn 28 = .ok (.goto 4, 3) := by decide +kernel
theorem dX3_seatsIn_31 : decode cX3_seatsIn 31 = .ok (.iconst 0, 1) := by decide +kernel
theorem dX3_seatsIn_32 : decode cX3_seatsIn 32 = .ok (.iadd, 1) := by decide +kernel
theorem dX3_seatsIn_33 : decode cX3_seatsIn 33 = .ok (.istore_n 2, 1) := by decide +kernel
theorem dX3_seatsIn_34 : decode cX3_seatsIn 34 = .ok (.iinc 3 1, 3) := by decide +kernel
theorem dX3_seatsIn_37 : decode cX3_seatsIn 37 = .ok (.goto (-33), 3) := by decide +kernel
theorem dX3_seatsIn_40 : decode cX3_seatsIn 40 = .ok (.iload_n 2, 1) := by decide +kernel
theorem dX3_seatsIn_41 : decode cX3_seatsIn 41 = .ok (.ireturn, 1) := by decide +kernel
theorem dX3_book_0 : decode cX3_book 0 = .ok (.aload_n 0, 1) := by decide +kernel
theorem dX3_book_1 : decode cX3_book 1 = .ok (.iload_n 1, 1) := by decide +kernel
theorem dX3_book_2 : decode cX3_book 2 = .ok (.invokevirtual 75, 3) := by decide +kernel
theorem dX3_book_5 : decode cX3_book 5 = .ok (.ifCond .ne 9, 3) := by decide +kernel
theorem dX3_book_8 : decode cX3_book 8 = .ok (.aload_n 0, 1) := by decide +kernel
theorem dX3_book_9 : decode cX3_book 9 = .ok (.iconst 1, 1) := by decide +kernel
theorem dX3_book_10 : decode cX3_book 10 = .ok (.invokevirtual 64, 3) := by decide +kernel
theorem dX3_book_13 : decode cX3_book 13 = .ok (.ireturn, 1) := by decide +kernel
theorem dX3_book_14 : decode cX3_book 14 = .ok (.aload_n 0, 1) := by decide +kernel
theorem dX3_book_15 : decode cX3_book 15 = .ok (.iload_n 2, 1) := by decide +kernel
theorem dX3_book_16 : decode cX3_book 16 = .ok (.invokevirtual 71, 3) := by decide +kernel
theorem dX3_book_19 : decode cX3_book 19 = .ok (.ifCond .ne 9, 3) := by decide +kernel
theorem dX3_book_22 : decode cX3_book 22 = .ok (.aload_n 0, 1) := by decide +kernel
theorem dX3_book_23 : decode cX3_book 23 = .ok (.iconst 2, 1) := by decide +kernel
theorem dX3_book_24 : decode cX3_book 24 = .ok (.invokevirtual 64, 3) := by decide +kernel
theorem dX3_book_27 : decode cX3_book 27 = .ok (.ireturn, 1) := by decide +kernel
theorem dX3_book_28 : decode cX3_book 28 = .ok (.aload_n 0, 1) := by decide +kernel
theorem dX3_book_29 : decode cX3_book 29 = .ok (.iload_n 1, 1) := by decide +kernel
theorem dX3_book_30 : decode cX3_book 30 = .ok (.invokevirtual 81, 3) := by decide +kernel
theorem dX3_book_33 : decode cX3_book 33 = .ok (.iconst (-1), 1) := by decide +kernel
theorem dX3_book_34 : decode cX3_book 34 = .ok (.if_icmp .eq 9, 3) := by decide +kernel
theorem dX3_book_37 : decode cX3_book 37 = .ok (.aload_n 0, 1) := by decide +kernel
theorem dX3_book_38 : decode cX3_book 38 = .ok (.iconst 3, 1) := by decide +kernel
theorem dX3_book_39 : decode cX3_book 39 = .ok (.invokevirtual 64, 3) := by decide +kernel
theorem dX3_book_42 : decode cX3_book 42 = .ok (.ireturn, 1) := by decide +kernel
theorem dX3_book_43 : decode cX3_book 43 = .ok (.aload_n 0, 1) := by decide +kernel
theorem dX3_book_44 : decode cX3_book 44 = .ok (.getfield 78, 3) := by decide +kernel
theorem dX3_book_47 : decode cX3_book 47 = .ok (.aload_n 0, 1) := by decide +kernel
theorem dX3_book_48 : decode cX3_book 48 = .ok (.bipush 63, 2) := by decide +kernel
theorem dX3_book_50 : decode cX3_book 50 = .ok (.invokevirtual 84, 3) := by decide +kernel
theorem dX3_book_53 : decode cX3_book 53 = .ok (.if_icmp .lt 9, 3) := by decide +kernel
theorem dX3_book_56 : decode cX3_book 56 = .ok (.aload_n 0, 1) := by decide +kernel
theorem dX3_book_57 : decode cX3_book 57 = .ok (.iconst 4, 1) := by decide +kernel
theorem dX3_book_58 : decode cX3_book 58 = .ok (.invokevirtual 64, 3) := by decide +kernel
theorem dX3_book_61 : decode cX3_book 61 = .ok (.ireturn, 1) := by decide +kernel
theorem dX3_book_62 : decode cX3_book 62 = .ok (.aload_n 0, 1) := by decide +kernel
theorem dX3_book_63 : decode cX3_book 63 = .ok (.getfield 44, 3) := by decide +kernel
theorem dX3_book_66 : decode cX3_book 66 = .ok (.aload_n 0, 1) := by decide +kernel
theorem dX3_book_67 : decode cX3_book 67 = .ok (.getfield 78, 3) := by decide +kernel
theorem dX3_book_70 : decode cX3_book 70 = .ok (.iload_n 1, 1) := by decide +kernel
theorem dX3_book_71 : decode cX3_book 71 = .ok (.iastore, 1) := by decide +kernel
theorem dX3_book_72 : decode cX3_book 72 = .ok (.aload_n 0, 1) := by decide +kernel
theorem dX3_book_73 : decode cX3_book 73 = .ok (.getfield 47, 3) := by decide +kernel
theorem dX3_book_76 : decode cX3_book 76 = .ok (.aload_n 0, 1) := by decide +kernel
theorem dX3_book_77 : decode cX3_book 77 = .ok (.getfield 78, 3) := by decide +kernel
theorem dX3_book_80 : decode cX3_book 80 = .ok (.iload_n 2, 1) := by decide +kernel
theorem dX3_book_81 : decode cX3_book 81 = .ok (.iastore, 1) := by decide +kernel
theorem dX3_book_82 : decode cX3_book 82 = .ok (.aload_n 0, 1) := by decide +kernel
theorem dX3_book_83 : decode cX3_book 83 = .ok (.dup, 1) := by decide +kernel
theorem dX3_book_84 : decode cX3_book 84 = .ok (.getfield 78, 3) := by decide +kernel
theorem dX3_book_87 : decode cX3_book 87 = .ok (.iconst 1, 1) := by decide +kernel
theorem dX3_book_88 : decode cX3_book 88 = .ok (.iadd, 1) := by decide +kernel
theorem dX3_book_89 : decode cX3_book 89 = .ok (.putfield 78, 3) := by decide +kernel
theorem dX3_book_92 : decode cX3_book 92 = .ok (.aload_n 0, 1) := by decide +kernel
theorem dX3_book_93 : decode cX3_book 93 = .ok (.aload_n 0, 1) := by decide +kernel
theorem dX3_book_94 : decode cX3_book 94 = .ok (.getfield 78, 3) := by decide +kernel
theorem dX3_book_97 : decode cX3_book 97 = .ok (.invokevirtual 68, 3) := by decide +kernel
theorem dX3_book_100 : decode cX3_book 100 = .ok (.ireturn, 1) := by decide +kernel
theorem dX3_cancel_0 : decode cX3_cancel 0 = .ok (.aload_n 0, 1) := by decide +kernel
theorem dX3_cancel_1 : decode cX3_cancel 1 = .ok (.iload_n 1, 1) := by decide +kernel
theorem dX3_cancel_2 : decode cX3_cancel 2 = .ok (.invokevirtual 75, 3) := by decide +kernel
theorem dX3_cancel_5 : decode cX3_cancel 5 = .ok (.ifCond .eq 11, 3) := by decide +kernel
theorem dX3_cancel_8 : decode cX3_cancel 8 = .ok (.aload_n 0, 1) := by decide +kernel
theorem dX3_cancel_9 : decode cX3_cancel 9 = .ok (.iload_n 1, 1) := by decide +kernel
theorem dX3_cancel_10 : decode cX3_cancel 10 = .ok (.invokevirtual 81, 3) := by decide +kernel
theorem dX3_cancel_13 : decode cX3_cancel 13 = .ok (.goto 4, 3) := by decide +kernel
theorem dX3_cancel_16 : decode cX3_cancel 16 = .ok (.iconst (-1), 1) := by decide +kernel
theorem dX3_cancel_17 : decode cX3_cancel 17 = .ok (.istore_n 2, 1) := by decide +kernel
theorem dX3_cancel_18 : decode cX3_cancel 18 = .ok (.iload_n 2, 1) := by decide +kernel
theorem dX3_cancel_19 : decode cX3_cancel 19 = .ok (.iconst (-1), 1) := by decide +kernel
theorem dX3_cancel_20 : decode cX3_cancel 20 = .ok (.if_icmp .ne 9, 3) := by decide +kernel
theorem dX3_cancel_23 : decode cX3_cancel 23 = .ok (.aload_n 0, 1) := by decide +kernel
theorem dX3_cancel_24 : decode cX3_cancel 24 = .ok (.iconst 1, 1) := by decide +kernel
theorem dX3_cancel_25 : decode cX3_cancel 25 = .ok (.invokevirtual 64, 3) := by decide +kernel
theorem dX3_cancel_28 : decode cX3_cancel 28 = .ok (.ireturn, 1) := by decide +kernel
theorem dX3_cancel_29 : decode cX3_cancel 29 = .ok (.aload_n 0, 1) := by decide +kernel
theorem dX3_cancel_30 : decode cX3_cancel 30 = .ok (.getfield 47, 3) := by decide +kernel
theorem dX3_cancel_33 : decode cX3_cancel 33 = .ok (.iload_n 2, 1) := by decide +kernel
theorem dX3_cancel_34 : decode cX3_cancel 34 = .ok (.iaload, 1) := by decide +kernel
theorem dX3_cancel_35 : decode cX3_cancel 35 = .ok (.istore_n 3, 1) := by decide +kernel
theorem dX3_cancel_36 : decode cX3_cancel 36 = .ok (.aload_n 0, 1) := by decide +kernel
theorem dX3_cancel_37 : decode cX3_cancel 37 = .ok (.dup, 1) := by decide +kernel
theorem dX3_cancel_38 : decode cX3_cancel 38 = .ok (.getfield 78, 3) := by decide +kernel
theorem dX3_cancel_41 : decode cX3_cancel 41 = .ok (.iconst 1, 1) := by decide +kernel
theorem dX3_cancel_42 : decode cX3_cancel 42 = .ok (.isub, 1) := by decide +kernel
theorem dX3_cancel_43 : decode cX3_cancel 43 = .ok (.putfield 78, 3) := by decide +kernel
theorem dX3_cancel_46 : decode cX3_cancel 46 = .ok (.iload_n 2, 1) := by decide +kernel
theorem dX3_cancel_47 : decode cX3_cancel 47 = .ok (.istore 4, 2) := by decide +kernel
theorem dX3_cancel_49 : decode cX3_cancel 49 = .ok (.iload 4, 2) := by decide +kernel
theorem dX3_cancel_51 : decode cX3_cancel 51 = .ok (.aload_n 0, 1) := by decide +kernel
theorem dX3_cancel_52 : decode cX3_cancel 52 = .ok (.getfield 78, 3) := by decide +kernel
theorem dX3_cancel_55 : decode cX3_cancel 55 = .ok (.if_icmp .ge 41, 3) := by decide +kernel
theorem dX3_cancel_58 : decode cX3_cancel 58 = .ok (.aload_n 0, 1) := by decide +kernel
theorem dX3_cancel_59 : decode cX3_cancel 59 = .ok (.getfield 44, 3) := by decide +kernel
theorem dX3_cancel_62 : decode cX3_cancel 62 = .ok (.iload 4, 2) := by decide +kernel
theorem dX3_cancel_64 : decode cX3_cancel 64 = .ok (.aload_n 0, 1) := by decide +kernel
theorem dX3_cancel_65 : decode cX3_cancel 65 = .ok (.getfield 44, 3) := by decide +kernel
theorem dX3_cancel_68 : decode cX3_cancel 68 = .ok (.iload 4, 2) := by decide +kernel
theorem dX3_cancel_70 : decode cX3_cancel 70 = .ok (.iconst 1, 1) := by decide +kernel
theorem dX3_cancel_71 : decode cX3_cancel 71 = .ok (.iadd, 1) := by decide +kernel
theorem dX3_cancel_72 : decode cX3_cancel 72 = .ok (.iaload, 1) := by decide +kernel
theorem dX3_cancel_73 : decode cX3_cancel 73 = .ok (.iastore, 1) := by decide +kernel
theorem dX3_cancel_74 : decode cX3_cancel 74 = .ok (.aload_n 0, 1) := by decide +kernel
theorem dX3_cancel_75 : decode cX3_cancel 75 = .ok (.getfield 47, 3) := by decide +kernel
theorem dX3_cancel_78 : decode cX3_cancel 78 = .ok (.iload 4, 2) := by decide +kernel
theorem dX3_cancel_80 : decode cX3_cancel 80 = .ok (.aload_n 0, 1) := by decide +kernel
theorem dX3_cancel_81 : decode cX3_cancel 81 = .ok (.getfield 47, 3) := by decide +kernel
theorem dX3_cancel_84 : decode cX3_cancel 84 = .ok (.iload 4, 2) := by decide +kernel
theorem dX3_cancel_86 : decode cX3_cancel 86 = .ok (.iconst 1, 1) := by decide +kernel
theorem dX3_cancel_87 : decode cX3_cancel 87 = .ok (.iadd, 1) := by decide +kernel
theorem dX3_cancel_88 : decode cX3_cancel 88 = .ok (.iaload, 1) := by decide +kernel
theorem dX3_cancel_89 : decode cX3_cancel 89 = .ok (.iastore, 1) := by decide +kernel
theorem dX3_cancel_90 : decode cX3_cancel 90 = .ok (.iinc 4 1, 3) := by decide +kernel
theorem dX3_cancel_93 : decode cX3_cancel 93 = .ok (.goto (-44), 3) := by decide +kernel
theorem dX3_cancel_96 : decode cX3_cancel 96 = .ok (.aload_n 0, 1) := by decide +kernel
theorem dX3_cancel_97 : decode cX3_cancel 97 = .ok (.iload_n 3, 1) := by decide +kernel
theorem dX3_cancel_98 : decode cX3_cancel 98 = .ok (.invokevirtual 68, 3) := by decide +kernel
theorem dX3_cancel_101 : decode cX3_cancel 101 = .ok (.ireturn, 1) := by decide +kernel
theorem dX3_bookings_0 : decode cX3_bookings 0 = .ok (.aload_n 0, 1) := by decide +kernel
theorem dX3_bookings_1 : decode cX3_bookings 1 = .ok (.aload_n 0, 1) := by decide +kernel
theorem dX3_bookings_2 : decode cX3_bookings 2 = .ok (.getfield 78, 3) := by decide +kernel
theorem dX3_bookings_5 : decode cX3_bookings 5 = .ok (.invokevirtual 68, 3) := by decide +kernel
theorem dX3_bookings_8 : decode cX3_bookings 8 = .ok (.ireturn, 1) := by decide +kernel
theorem dX3_bookingAt_0 : decode cX3_bookingAt 0 = .ok (.iload_n 1, 1) := by decide +kernel
theorem dX3_bookingAt_1 : decode cX3_bookingAt 1 = .ok (.iconst 0, 1) := by decide +kernel
theorem dX3_bookingAt_2 : decode cX3_bookingAt 2 = .ok (.aload_n 0, 1) := by decide +kernel
theorem dX3_bookingAt_3 : decode cX3_bookingAt 3 = .ok (.getfield 78, 3) := by decide +kernel
theorem dX3_bookingAt_6 : decode cX3_bookingAt 6 = .ok (.iconst 1, 1) := by decide +kernel
theorem dX3_bookingAt_7 : decode cX3_bookingAt 7 = .ok (.isub, 1) := by decide +kernel
theorem dX3_bookingAt_8 : decode cX3_bookingAt 8 = .ok (.invokestatic 57, 3) := by decide +kernel
theorem dX3_bookingAt_11 : decode cX3_bookingAt 11 = .ok (.ifCond .eq 16, 3) := by decide +kernel
theorem dX3_bookingAt_14 : decode cX3_bookingAt 14 = .ok (.aload_n 0, 1) := by decide +kernel
theorem dX3_bookingAt_15 : decode cX3_bookingAt 15 = .ok (.aload_n 0, 1) := by decide +kernel
theorem dX3_bookingAt_16 : decode cX3_bookingAt 16 = .ok (.getfield 44, 3) := by decide +kernel
theorem dX3_bookingAt_19 : decode cX3_bookingAt 19 = .ok (.iload_n 1, 1) := by decide +kernel
theorem dX3_bookingAt_20 : decode cX3_bookingAt 20 = .ok (.iaload, 1) := by decide +kernel
theorem dX3_bookingAt_21 : decode cX3_bookingAt 21 = .ok (.invokevirtual 68, 3) := by decide +kernel
theorem dX3_bookingAt_24 : decode cX3_bookingAt 24 = .ok (.goto 8, 3) := by decide +kernel
theorem dX3_bookingAt_27 : decode cX3_bookingAt 27 = .ok (.aload_n 0, 1) := by decide +kernel
theorem dX3_bookingAt_28 : decode cX3_bookingAt 28 = .ok (.iconst 1, 1) := by decide +kernel
theorem dX3_bookingAt_29 : decode cX3_bookingAt 29 = .ok (.invokevirtual 64, 3) := by decide +kernel
theorem dX3_bookingAt_32 : decode cX3_bookingAt 32 = .ok (.ireturn, 1) := by decide +kernel
theorem dX3_apart_0 : decode cX3_apart 0 = .ok (.iload_n 0, 1) := by decide +kernel
theorem dX3_apart_1 : decode cX3_apart 1 = .ok (.iload_n 1, 1) := by decide +kernel
theorem dX3_apart_2 : decode cX3_apart 2 = .ok (.if_icmp .le 9, 3) := by decide +kernel
theorem dX3_apart_5 : decode cX3_apart 5 = .ok (.iload_n 0, 1) := by decide +kernel
theorem dX3_apart_6 : decode cX3_apart 6 = .ok (.iload_n 1, 1) := by decide +kernel
theorem dX3_apart_7 : decode cX3_apart 7 = .ok (.isub, 1) := by decide +kernel
theorem dX3_apart_8 : decode cX3_apart 8 = .ok (.goto 6, 3) := by decide +kernel
theorem dX3_apart_11 : decode cX3_apart 11 = .ok (.iload_n 1, 1) := by decide +kernel
theorem dX3_apart_12 : decode cX3_apart 12 = .ok (.iload_n 0, 1) := by decide +kernel
theorem dX3_apart_13 : decode cX3_apart 13 = .ok (.isub, 1) := by decide +kernel
theorem dX3_apart_14 : decode cX3_apart 14 = .ok (.ireturn, 1) := by decide +kernel
theorem dX3_fits_0 : decode cX3_fits 0 = .ok (.aload_n 0, 1) := by decide +kernel
theorem dX3_fits_1 : decode cX3_fits 1 = .ok (.iload_n 1, 1) := by decide +kernel
theorem dX3_fits_2 : decode cX3_fits 2 = .ok (.invokevirtual 84, 3) := by decide +kernel
theorem dX3_fits_5 : decode cX3_fits 5 = .ok (.aload_n 0, 1) := by decide +kernel
theorem dX3_fits_6 : decode cX3_fits 6 = .ok (.getfield 78, 3) := by decide +kernel
theorem dX3_fits_9 : decode cX3_fits 9 = .ok (.if_icmp .lt 18, 3) := by decide +kernel
theorem dX3_fits_12 : decode cX3_fits 12 = .ok (.aload_n 0, 1) := by decide +kernel
theorem dX3_fits_13 : decode cX3_fits 13 = .ok (.getfield 78, 3) := by decide +kernel
theorem dX3_fits_16 : decode cX3_fits 16 = .ok (.ifCond .eq 7, 3) := by decide +kernel
theorem dX3_fits_19 : decode cX3_fits 19 = .ok (.iload_n 1, 1) := by decide +kernel
theorem dX3_fits_20 : decode cX3_fits 20 = .ok (.ifCond .le 7, 3) := by decide +kernel
theorem dX3_fits_23 : decode cX3_fits 23 = .ok (.iconst 1, 1) := by decide +kernel
theorem dX3_fits_24 : decode cX3_fits 24 = .ok (.goto 4, 3) := by decide +kernel
theorem dX3_fits_27 : decode cX3_fits 27 = .ok (.iconst 0, 1) := by decide +kernel
theorem dX3_fits_28 : decode cX3_fits 28 = .ok (.ireturn, 1) := by decide +kernel
theorem dX3_loss_0 : decode cX3_loss 0 = .ok (.iconst 0, 1) := by decide +kernel
theorem dX3_loss_1 : decode cX3_loss 1 = .ok (.istore_n 2, 1) := by decide +kernel
theorem dX3_loss_2 : decode cX3_loss 2 = .ok (.iconst 0, 1) := by decide +kernel
theorem dX3_loss_3 : decode cX3_loss 3 = .ok (.istore_n 3, 1) := by decide +kernel
theorem dX3_loss_4 : decode cX3_loss 4 = .ok (.iload_n 3, 1) := by decide +kernel
theorem dX3_loss_5 : decode cX3_loss 5 = .ok (.aload_n 0, 1) := by decide +kernel
theorem dX3_loss_6 : decode cX3_loss 6 = .ok (.getfield 54, 3) := by decide +kernel
theorem dX3_loss_9 : decode cX3_loss 9 = .ok (.if_icmp .ge 31, 3) := by decide +kernel
theorem dX3_loss_12 : decode cX3_loss 12 = .ok (.iload_n 2, 1) := by decide +kernel
theorem dX3_loss_13 : decode cX3_loss 13 = .ok (.iload_n 1, 1) := by decide +kernel
theorem dX3_loss_14 : decode cX3_loss 14 = .ok (.iload_n 3, 1) := by decide +kernel
theorem dX3_loss_15 : decode cX3_loss 15 = .ok (.ishr, 1) := by decide +kernel
theorem dX3_loss_16 : decode cX3_loss 16 = .ok (.iconst 1, 1) := by decide +kernel
theorem dX3_loss_17 : decode cX3_loss 17 = .ok (.iand, 1) := by decide +kernel
theorem dX3_loss_18 : decode cX3_loss 18 = .ok (.iconst 1, 1) := by decide +kernel
theorem dX3_loss_19 : decode cX3_loss 19 = .ok (.if_icmp .ne 12, 3) := by decide +kernel
theorem dX3_loss_22 : decode cX3_loss 22 = .ok (.aload_n 0, 1) := by decide +kernel
theorem dX3_loss_23 : decode cX3_loss 23 = .ok (.getfield 13, 3) := by decide +kernel
theorem dX3_loss_26 : decode cX3_loss 26 = .ok (.iload_n 3, 1) := by decide +kernel
theorem dX3_loss_27 : decode cX3_loss 27 = .ok (.iaload, 1) := by decide +kernel
theorem dX3_loss_28 : decode cX3_loss 28 = .ok (.goto 4, 3) := by decide +kernel
theorem dX3_loss_31 : decode cX3_loss 31 = .ok (.iconst 0, 1) := by decide +kernel
theorem dX3_loss_32 : decode cX3_loss 32 = .ok (.iadd, 1) := by decide +kernel
theorem dX3_loss_33 : decode cX3_loss 33 = .ok (.istore_n 2, 1) := by decide +kernel
theorem dX3_loss_34 : decode cX3_loss 34 = .ok (.iinc 3 1, 3) := by decide +kernel
theorem dX3_loss_37 : decode cX3_loss 37 = .ok (.goto (-33), 3) := by decide +kernel
theorem dX3_loss_40 : decode cX3_loss 40 = .ok (.iconst 0, 1) := by decide +kernel
theorem dX3_loss_41 : decode cX3_loss 41 = .ok (.istore_n 3, 1) := by decide +kernel
theorem dX3_loss_42 : decode cX3_loss 42 = .ok (.iload_n 3, 1) := by decide +kernel
theorem dX3_loss_43 : decode cX3_loss 43 = .ok (.aload_n 0, 1) := by decide +kernel
theorem dX3_loss_44 : decode cX3_loss 44 = .ok (.getfield 78, 3) := by decide +kernel
theorem dX3_loss_47 : decode cX3_loss 47 = .ok (.if_icmp .ge 77, 3) := by decide +kernel
theorem dX3_loss_50 : decode cX3_loss 50 = .ok (.bipush 6, 2) := by decide +kernel
theorem dX3_loss_52 : decode cX3_loss 52 = .ok (.istore 4, 2) := by decide +kernel
theorem dX3_loss_54 : decode cX3_loss 54 = .ok (.iconst 0, 1) := by decide +kernel
theorem dX3_loss_55 : decode cX3_loss 55 = .ok (.istore 5, 2) := by decide +kernel
theorem dX3_loss_57 : decode cX3_loss 57 = .ok (.iload 5, 2) := by decide +kernel
theorem dX3_loss_59 : decode cX3_loss 59 = .ok (.aload_n 0, 1) := by decide +kernel
theorem dX3_loss_60 : decode cX3_loss 60 = .ok (.getfield 54, 3) := by decide +kernel
theorem dX3_loss_63 : decode cX3_loss 63 = .ok (.if_icmp .ge 48, 3) := by decide +kernel
theorem dX3_loss_66 : decode cX3_loss 66 = .ok (.iload_n 1, 1) := by decide +kernel
theorem dX3_loss_67 : decode cX3_loss 67 = .ok (.iload 5, 2) := by decide +kernel
theorem dX3_loss_69 : decode cX3_loss 69 = .ok (.ishr, 1) := by decide +kernel
theorem dX3_loss_70 : decode cX3_loss 70 = .ok (.iconst 1, 1) := by decide +kernel
theorem dX3_loss_71 : decode cX3_loss 71 = .ok (.iand, 1) := by decide +kernel
theorem dX3_loss_72 : decode cX3_loss 72 = .ok (.iconst 1, 1) := by decide +kernel
theorem dX3_loss_73 : decode cX3_loss 73 = .ok (.if_icmp .ne 32, 3) := by decide +kernel
theorem dX3_loss_76 : decode cX3_loss 76 = .ok (.iload 5, 2) := by decide +kernel
theorem dX3_loss_78 : decode cX3_loss 78 = .ok (.aload_n 0, 1) := by decide +kernel
theorem dX3_loss_79 : decode cX3_loss 79 = .ok (.getfield 47, 3) := by decide +kernel
theorem dX3_loss_82 : decode cX3_loss 82 = .ok (.iload_n 3, 1) := by decide +kernel
theorem dX3_loss_83 : decode cX3_loss 83 = .ok (.iaload, 1) := by decide +kernel
theorem dX3_loss_84 : decode cX3_loss 84 = .ok (.invokestatic 87, 3) := by decide +kernel
theorem dX3_loss_87 : decode cX3_loss 87 = .ok (.iload 4, 2) := by decide +kernel
theorem dX3_loss_89 : decode cX3_loss 89 = .ok (.if_icmp .ge 16, 3) := by decide +kernel
theorem dX3_loss_92 : decode cX3_loss 92 = .ok (.iload 5, 2) := by decide +kernel
theorem dX3_loss_94 : decode cX3_loss 94 = .ok (.aload_n 0, 1) := by decide +kernel
theorem dX3_loss_95 : decode cX3_loss 95 = .ok (.getfield 47, 3) := by decide +kernel
theorem dX3_loss_98 : decode cX3_loss 98 = .ok (.iload_n 3, 1) := by decide +kernel
theorem dX3_loss_99 : decode cX3_loss 99 = .ok (.iaload, 1) := by decide +kernel
theorem dX3_loss_100 : decode cX3_loss 100 = .ok (.invokestatic 87, 3) := by decide +kernel
theorem dX3_loss_103 : decode cX3_loss 103 = .ok (.istore 4, 2) := by decide +kernel
theorem dX3_loss_105 : decode cX3_loss 105 = .ok (.iinc 5 1, 3) := by decide +kernel
theorem dX3_loss_108 : decode cX3_loss 108 = .ok (.goto (-51), 3) := by decide +kernel
theorem dX3_loss_111 : decode cX3_loss 111 = .ok (.iload_n 2, 1) := by decide +kernel
theorem dX3_loss_112 : decode cX3_loss 112 = .ok (.iconst 3, 1) := by decide +kernel
theorem dX3_loss_113 : decode cX3_loss 113 = .ok (.iload 4, 2) := by decide +kernel
theorem dX3_loss_115 : decode cX3_loss 115 = .ok (.imul, 1) := by decide +kernel
theorem dX3_loss_116 : decode cX3_loss 116 = .ok (.iadd, 1) := by decide +kernel
theorem dX3_loss_117 : decode cX3_loss 117 = .ok (.istore_n 2, 1) := by decide +kernel
theorem dX3_loss_118 : decode cX3_loss 118 = .ok (.iinc 3 1, 3) := by decide +kernel
theorem dX3_loss_121 : decode cX3_loss 121 = .ok (.goto (-79), 3) := by decide +kernel
theorem dX3_loss_124 : decode cX3_loss 124 = .ok (.iload_n 2, 1) := by decide +kernel
theorem dX3_loss_125 : decode cX3_loss 125 = .ok (.ireturn, 1) := by decide +kernel
theorem dX3_best_0 : decode cX3_best 0 = .ok (.iconst (-1), 1) := by decide +kernel
theorem dX3_best_1 : decode cX3_best 1 = .ok (.istore_n 1, 1) := by decide +kernel
theorem dX3_best_2 : decode cX3_best 2 = .ok (.iconst 0, 1) := by decide +kernel
theorem dX3_best_3 : decode cX3_best 3 = .ok (.istore_n 2, 1) := by decide +kernel
theorem dX3_best_4 : decode cX3_best 4 = .ok (.iload_n 2, 1) := by decide +kernel
theorem dX3_best_5 : decode cX3_best 5 = .ok (.iconst 1, 1) := by decide +kernel
theorem dX3_best_6 : decode cX3_best 6 = .ok (.aload_n 0, 1) := by decide +kernel
theorem dX3_best_7 : decode cX3_best 7 = .ok (.getfield 54, 3) := by decide +kernel
theorem dX3_best_10 : decode cX3_best 10 = .ok (.ishl, 1) := by decide +kernel
theorem dX3_best_11 : decode cX3_best 11 = .ok (.if_icmp .ge 37, 3) := by decide +kernel
theorem dX3_best_14 : decode cX3_best 14 = .ok (.aload_n 0, 1) := by decide +kernel
theorem dX3_best_15 : decode cX3_best 15 = .ok (.iload_n 2, 1) := by decide +kernel
theorem dX3_best_16 : decode cX3_best 16 = .ok (.invokevirtual 91, 3) := by decide +kernel
theorem dX3_best_19 : decode cX3_best 19 = .ok (.ifCond .eq 23, 3) := by decide +kernel
theorem dX3_best_22 : decode cX3_best 22 = .ok (.iload_n 1, 1) := by decide +kernel
theorem dX3_best_23 : decode cX3_best 23 = .ok (.iconst (-1), 1) := by decide +kernel
theorem dX3_best_24 : decode cX3_best 24 = .ok (.if_icmp .eq 16, 3) := by decide +kernel
theorem dX3_best_27 : decode cX3_best 27 = .ok (.aload_n 0, 1) := by decide +kernel
theorem dX3_best_28 : decode cX3_best 28 = .ok (.iload_n 2, 1) := by decide +kernel
theorem dX3_best_29 : decode cX3_best 29 = .ok (.invokevirtual 94, 3) := by decide +kernel
theorem dX3_best_32 : decode cX3_best 32 = .ok (.aload_n 0, 1) := by decide +kernel
theorem dX3_best_33 : decode cX3_best 33 = .ok (.iload_n 1, 1) := by decide +kernel
theorem dX3_best_34 : decode cX3_best 34 = .ok (.invokevirtual 94, 3) := by decide +kernel
theorem dX3_best_37 : decode cX3_best 37 = .ok (.if_icmp .ge 5, 3) := by decide +kernel
theorem dX3_best_40 : decode cX3_best 40 = .ok (.iload_n 2, 1) := by decide +kernel
theorem dX3_best_41 : decode cX3_best 41 = .ok (.istore_n 1, 1) := by decide +kernel
theorem dX3_best_42 : decode cX3_best 42 = .ok (.iinc 2 1, 3) := by decide +kernel
theorem dX3_best_45 : decode cX3_best 45 = .ok (.goto (-41), 3) := by decide +kernel
theorem dX3_best_48 : decode cX3_best 48 = .ok (.aload_n 0, 1) := by decide +kernel
theorem dX3_best_49 : decode cX3_best 49 = .ok (.getfield 78, 3) := by decide +kernel
theorem dX3_best_52 : decode cX3_best 52 = .ok (.ifCond .ne 7, 3) := by decide +kernel
theorem dX3_best_55 : decode cX3_best 55 = .ok (.iconst 0, 1) := by decide +kernel
theorem dX3_best_56 : decode cX3_best 56 = .ok (.goto 4, 3) := by decide +kernel
theorem dX3_best_59 : decode cX3_best 59 = .ok (.iload_n 1, 1) := by decide +kernel
theorem dX3_best_60 : decode cX3_best 60 = .ok (.ireturn, 1) := by decide +kernel
theorem dX3_plan_0 : decode cX3_plan 0 = .ok (.aload_n 0, 1) := by decide +kernel
theorem dX3_plan_1 : decode cX3_plan 1 = .ok (.aload_n 0, 1) := by decide +kernel
theorem dX3_plan_2 : decode cX3_plan 2 = .ok (.invokevirtual 97, 3) := by decide +kernel
theorem dX3_plan_5 : decode cX3_plan 5 = .ok (.invokevirtual 68, 3) := by decide +kernel
theorem dX3_plan_8 : decode cX3_plan 8 = .ok (.ireturn, 1) := by decide +kernel
theorem dX3_planByTrying_0 : decode cX3_planByTrying 0 = .ok (.aload_n 0, 1) := by decide +kernel
theorem dX3_planByTrying_1 : decode cX3_planByTrying 1 = .ok (.aload_n 0, 1) := by decide +kernel
theorem dX3_planByTrying_2 : decode cX3_planByTrying 2 = .ok (.invokevirtual 97, 3) := by decide +kernel
theorem dX3_planByTrying_5 : decode cX3_planByTrying 5 = .ok (.invokevirtual 68, 3) := by decide +kernel
theorem dX3_planByTrying_8 : decode cX3_planByTrying 8 = .ok (.ireturn, 1) := by decide +kernel
theorem dX3_planLoss_0 : decode cX3_planLoss 0 = .ok (.aload_n 0, 1) := by decide +kernel
theorem dX3_planLoss_1 : decode cX3_planLoss 1 = .ok (.aload_n 0, 1) := by decide +kernel
theorem dX3_planLoss_2 : decode cX3_planLoss 2 = .ok (.aload_n 0, 1) := by decide +kernel
theorem dX3_planLoss_3 : decode cX3_planLoss 3 = .ok (.invokevirtual 97, 3) := by decide +kernel
theorem dX3_planLoss_6 : decode cX3_planLoss 6 = .ok (.invokevirtual 94, 3) := by decide +kernel
theorem dX3_planLoss_9 : decode cX3_planLoss 9 = .ok (.invokevirtual 68, 3) := by decide +kernel
theorem dX3_planLoss_12 : decode cX3_planLoss 12 = .ok (.ireturn, 1) := by decide +kernel
theorem dX3_lossOf_0 : decode cX3_lossOf 0 = .ok (.iload_n 1, 1) := by decide +kernel
theorem dX3_lossOf_1 : decode cX3_lossOf 1 = .ok (.iconst 0, 1) := by decide +kernel
theorem dX3_lossOf_2 : decode cX3_lossOf 2 = .ok (.iconst 1, 1) := by decide +kernel
theorem dX3_lossOf_3 : decode cX3_lossOf 3 = .ok (.aload_n 0, 1) := by decide +kernel
theorem dX3_lossOf_4 : decode cX3_lossOf 4 = .ok (.getfield 54, 3) := by decide +kernel
theorem dX3_lossOf_7 : decode cX3_lossOf 7 = .ok (.ishl, 1) := by decide +kernel
theorem dX3_lossOf_8 : decode cX3_lossOf 8 = .ok (.iconst 1, 1) := by decide +kernel
theorem dX3_lossOf_9 : decode cX3_lossOf 9 = .ok (.isub, 1) := by decide +kernel
theorem dX3_lossOf_10 : decode cX3_lossOf 10 = .ok (.invokestatic 57, 3) := by decide +kernel
theorem dX3_lossOf_13 : decode cX3_lossOf 13 = .ok (.ifCond .ne 9, 3) := by decide +kernel
theorem dX3_lossOf_16 : decode cX3_lossOf 16 = .ok (.aload_n 0, 1) := by decide +kernel
theorem dX3_lossOf_17 : decode cX3_lossOf 17 = .ok (.iconst 1, 1) := by decide +kernel
theorem dX3_lossOf_18 : decode cX3_lossOf 18 = .ok (.invokevirtual 64, 3) := by decide +kernel
theorem dX3_lossOf_21 : decode cX3_lossOf 21 = .ok (.ireturn, 1) := by decide +kernel
theorem dX3_lossOf_22 : decode cX3_lossOf 22 = .ok (.aload_n 0, 1) := by decide +kernel
theorem dX3_lossOf_23 : decode cX3_lossOf 23 = .ok (.iload_n 1, 1) := by decide +kernel
theorem dX3_lossOf_24 : decode cX3_lossOf 24 = .ok (.invokevirtual 91, 3) := by decide +kernel
theorem dX3_lossOf_27 : decode cX3_lossOf 27 = .ok (.ifCond .eq 15, 3) := by decide +kernel
theorem dX3_lossOf_30 : decode cX3_lossOf 30 = .ok (.aload_n 0, 1) := by decide +kernel
theorem dX3_lossOf_31 : decode cX3_lossOf 31 = .ok (.aload_n 0, 1) := by decide +kernel
theorem dX3_lossOf_32 : decode cX3_lossOf 32 = .ok (.iload_n 1, 1) := by decide +kernel
theorem dX3_lossOf_33 : decode cX3_lossOf 33 = .ok (.invokevirtual 94, 3) := by decide +kernel
theorem dX3_lossOf_36 : decode cX3_lossOf 36 = .ok (.invokevirtual 68, 3) := by decide +kernel
theorem dX3_lossOf_39 : decode cX3_lossOf 39 = .ok (.goto 8, 3) := by decide +kernel
theorem dX3_lossOf_42 : decode cX3_lossOf 42 = .ok (.aload_n 0, 1) := by decide +kernel
theorem dX3_lossOf_43 : decode cX3_lossOf 43 = .ok (.iconst 2, 1) := by decide +kernel
theorem dX3_lossOf_44 : decode cX3_lossOf 44 = .ok (.invokevirtual 64, 3) := by decide +kernel
theorem dX3_lossOf_47 : decode cX3_lossOf 47 = .ok (.ireturn, 1) := by decide +kernel
theorem dX3_sitting_0 : decode cX3_sitting 0 = .ok (.iconst 0, 1) := by decide +kernel
theorem dX3_sitting_1 : decode cX3_sitting 1 = .ok (.istore_n 3, 1) := by decide +kernel
theorem dX3_sitting_2 : decode cX3_sitting 2 = .ok (.iconst 0, 1) := by decide +kernel
theorem dX3_sitting_3 : decode cX3_sitting 3 = .ok (.istore 4, 2) := by decide +kernel
theorem dX3_sitting_5 : decode cX3_sitting 5 = .ok (.iload 4, 2) := by decide +kernel
theorem dX3_sitting_7 : decode cX3_sitting 7 = .ok (.aload_n 0, 1) := by decide +kernel
theorem dX3_sitting_8 : decode cX3_sitting 8 = .ok (.getfield 61, 3) := by decide +kernel
theorem dX3_sitting_11 : decode cX3_sitting 11 = .ok (.if_icmp .ge 44, 3) := by decide +kernel
theorem dX3_sitting_14 : decode cX3_sitting 14 = .ok (.iload_n 3, 1) := by decide +kernel
theorem dX3_sitting_15 : decode cX3_sitting 15 = .ok (.aload_n 0, 1) := by decide +kernel
theorem dX3_sitting_16 : decode cX3_sitting 16 = .ok (.getfield 32, 3) := by decide +kernel
theorem dX3_sitting_19 : decode cX3_sitting 19 = .ok (.iload 4, 2) := by decide +kernel
theorem dX3_sitting_21 : decode cX3_sitting 21 = .ok (.iaload, 1) := by decide +kernel
theorem dX3_sitting_22 : decode cX3_sitting 22 = .ok (.iload_n 1, 1) := by decide +kernel
theorem dX3_sitting_23 : decode cX3_sitting 23 = .ok (.if_icmp .ne 23, 3) := by decide +kernel
theorem dX3_sitting_26 : decode cX3_sitting 26 = .ok (.iload_n 2, 1) := by decide +kernel
theorem dX3_sitting_27 : decode cX3_sitting 27 = .ok (.iconst (-1), 1) := by decide +kernel
theorem dX3_sitting_28 : decode cX3_sitting 28 = .ok (.if_icmp .eq 14, 3) := by decide +kernel
theorem dX3_sitting_31 : decode cX3_sitting 31 = .ok (.aload_n 0, 1) := by decide +kernel
theorem dX3_sitting_32 : decode cX3_sitting 32 = .ok (.getfield 26, 3) := by decide +kernel
theorem dX3_sitting_35 : decode cX3_sitting 35 = .ok (.iload 4, 2) := by decide +kernel
theorem dX3_sitting_37 : decode cX3_sitting 37 = .ok (.iaload, 1) := by decide +kernel
theorem dX3_sitting_38 : decode cX3_sitting 38 = .ok (.iload_n 2, 1) := by decide +kernel
theorem dX3_sitting_39 : decode cX3_sitting 39 = .ok (.if_icmp .ne 7, 3) := by decide +kernel
theorem dX3_sitting_42 : decode cX3_sitting 42 = .ok (.iconst 1, 1) := by decide +kernel
theorem dX3_sitting_43 : decode cX3_sitting 43 = .ok (.goto 4, 3) := by decide +kernel
theorem dX3_sitting_46 : decode cX3_sitting 46 = .ok (.iconst 0, 1) := by decide +kernel
theorem dX3_sitting_47 : decode cX3_sitting 47 = .ok (.iadd, 1) := by decide +kernel
theorem dX3_sitting_48 : decode cX3_sitting 48 = .ok (.istore_n 3, 1) := by decide +kernel
theorem dX3_sitting_49 : decode cX3_sitting 49 = .ok (.iinc 4 1, 3) := by decide +kernel
theorem dX3_sitting_52 : decode cX3_sitting 52 = .ok (.goto (-47), 3) := by decide +kernel
theorem dX3_sitting_55 : decode cX3_sitting 55 = .ok (.iload_n 3, 1) := by decide +kernel
theorem dX3_sitting_56 : decode cX3_sitting 56 = .ok (.ireturn, 1) := by decide +kernel
theorem dX3_judges_0 : decode cX3_judges 0 = .ok (.iconst 0, 1) := by decide +kernel
theorem dX3_judges_1 : decode cX3_judges 1 = .ok (.istore_n 1, 1) := by decide +kernel
theorem dX3_judges_2 : decode cX3_judges 2 = .ok (.iconst 0, 1) := by decide +kernel
theorem dX3_judges_3 : decode cX3_judges 3 = .ok (.istore_n 2, 1) := by decide +kernel
theorem dX3_judges_4 : decode cX3_judges 4 = .ok (.iload_n 2, 1) := by decide +kernel
theorem dX3_judges_5 : decode cX3_judges 5 = .ok (.aload_n 0, 1) := by decide +kernel
theorem dX3_judges_6 : decode cX3_judges 6 = .ok (.getfield 61, 3) := by decide +kernel
theorem dX3_judges_9 : decode cX3_judges 9 = .ok (.if_icmp .ge 85, 3) := by decide +kernel
theorem dX3_judges_12 : decode cX3_judges 12 = .ok (.aload_n 0, 1) := by decide +kernel
theorem dX3_judges_13 : decode cX3_judges 13 = .ok (.getfield 32, 3) := by decide +kernel
theorem dX3_judges_16 : decode cX3_judges 16 = .ok (.iload_n 2, 1) := by decide +kernel
theorem dX3_judges_17 : decode cX3_judges 17 = .ok (.iaload, 1) := by decide +kernel
theorem dX3_judges_18 : decode cX3_judges 18 = .ok (.iconst (-1), 1) := by decide +kernel
theorem dX3_judges_19 : decode cX3_judges 19 = .ok (.if_icmp .ne 6, 3) := by decide +kernel
theorem dX3_judges_22 : decode cX3_judges 22 = .ok (.goto 66, 3) := by decide +kernel
theorem dX3_judges_25 : decode cX3_judges 25 = .ok (.aload_n 0, 1) := by decide +kernel
theorem dX3_judges_26 : decode cX3_judges 26 = .ok (.getfield 38, 3) := by decide +kernel
theorem dX3_judges_29 : decode cX3_judges 29 = .ok (.iload_n 2, 1) := by decide +kernel
theorem dX3_judges_30 : decode cX3_judges 30 = .ok (.baload, 1) := by decide +kernel
theorem dX3_judges_31 : decode cX3_judges 31 = .ok (.ifCond .eq 31, 3) := by decide +kernel
theorem dX3_judges_34 : decode cX3_judges 34 = .ok (.aload_n 0, 1) := by decide +kernel
theorem dX3_judges_35 : decode cX3_judges 35 = .ok (.getfield 29, 3) := by decide +kernel
theorem dX3_judges_38 : decode cX3_judges 38 = .ok (.iload_n 2, 1) := by decide +kernel
theorem dX3_judges_39 : decode cX3_judges 39 = .ok (.dup2, 1) := by decide +kernel
theorem dX3_judges_40 : decode cX3_judges 40 = .ok (.iaload, 1) := by decide +kernel
theorem dX3_judges_41 : decode cX3_judges 41 = .ok (.aload_n 0, 1) := by decide +kernel
theorem dX3_judges_42 : decode cX3_judges 42 = .ok (.getfield 29, 3) := by decide +kernel
theorem dX3_judges_45 : decode cX3_judges 45 = .ok (.iload_n 2, 1) := by decide +kernel
theorem dX3_judges_46 : decode cX3_judges 46 = .ok (.iaload, 1) := by decide +kernel
theorem dX3_judges_47 : decode cX3_judges 47 = .ok (.bipush 10, 2) := by decide +kernel
theorem dX3_judges_49 : decode cX3_judges 49 = .ok (.if_icmp .ge 7, 3) := by decide +kernel
theorem dX3_judges_52 : decode cX3_judges 52 = .ok (.iconst 1, 1) := by decide +kernel
theorem dX3_judges_53 : decode cX3_judges 53 = .ok (.goto 4, 3) := by decide +kernel
theorem dX3_judges_56 : decode cX3_judges 56 = .ok (.iconst 0, 1) := by decide +kernel
theorem dX3_judges_57 : decode cX3_judges 57 = .ok (.iadd, 1) := by decide +kernel
theorem dX3_judges_58 : decode cX3_judges 58 = .ok (.iastore, 1) := by decide +kernel
theorem dX3_judges_59 : decode cX3_judges 59 = .ok (.goto 29, 3) := by decide +kernel
theorem dX3_judges_62 : decode cX3_judges 62 = .ok (.aload_n 0, 1) := by decide +kernel
theorem dX3_judges_63 : decode cX3_judges 63 = .ok (.getfield 29, 3) := by decide +kernel
theorem dX3_judges_66 : decode cX3_judges 66 = .ok (.iload_n 2, 1) := by decide +kernel
theorem dX3_judges_67 : decode cX3_judges 67 = .ok (.dup2, 1) := by decide +kernel
theorem dX3_judges_68 : decode cX3_judges 68 = .ok (.iaload, 1) := by decide +kernel
theorem dX3_judges_69 : decode cX3_judges 69 = .ok (.aload_n 0, 1) := by decide +kernel
theorem dX3_judges_70 : decode cX3_judges 70 = .ok (.getfield 29, 3) := by decide +kernel
theorem dX3_judges_73 : decode cX3_judges 73 = .ok (.iload_n 2, 1) := by decide +kernel
theorem dX3_judges_74 : decode cX3_judges 74 = .ok (.iaload, 1) := by decide +kernel
theorem dX3_judges_75 : decode cX3_judges 75 = .ok (.ifCond .le 7, 3) := by decide +kernel
theorem dX3_judges_78 : decode cX3_judges 78 = .ok (.iconst 1, 1) := by decide +kernel
theorem dX3_judges_79 : decode cX3_judges 79 = .ok (.goto 4, 3) := by decide +kernel
theorem dX3_judges_82 : decode cX3_judges 82 = .ok (.iconst 0, 1) := by decide +kernel
theorem dX3_judges_83 : decode cX3_judges 83 = .ok (.isub, 1) := by decide +kernel
theorem dX3_judges_84 : decode cX3_judges 84 = .ok (.iastore, 1) := by decide +kernel
theorem dX3_judges_85 : decode cX3_judges 85 = .ok (.iinc 1 1, 3) := by decide +kernel
theorem dX3_judges_88 : decode cX3_judges 88 = .ok (.iinc 2 1, 3) := by decide +kernel
theorem dX3_judges_91 : decode cX3_judges 91 = .ok (.goto (-87), 3) := by decide +kernel
theorem dX3_judges_94 : decode cX3_judges 94 = .ok (.iload_n 1, 1) := by decide +kernel
theorem dX3_judges_95 : decode cX3_judges 95 = .ok (.ireturn, 1) := by decide +kernel
theorem dX3_cleans_0 : decode cX3_cleans 0 = .ok (.iconst 0, 1) := by decide +kernel
theorem dX3_cleans_1 : decode cX3_cleans 1 = .ok (.istore_n 1, 1) := by decide +kernel
theorem dX3_cleans_2 : decode cX3_cleans 2 = .ok (.iload_n 1, 1) := by decide +kernel
theorem dX3_cleans_3 : decode cX3_cleans 3 = .ok (.aload_n 0, 1) := by decide +kernel
theorem dX3_cleans_4 : decode cX3_cleans 4 = .ok (.getfield 54, 3) := by decide +kernel
theorem dX3_cleans_7 : decode cX3_cleans 7 = .ok (.if_icmp .ge 84, 3) := by decide +kernel
theorem dX3_cleans_10 : decode cX3_cleans 10 = .ok (.aload_n 0, 1) := by decide +kernel
theorem dX3_cleans_11 : decode cX3_cleans 11 = .ok (.getfield 22, 3) := by decide +kernel
theorem dX3_cleans_14 : decode cX3_cleans 14 = .ok (.iload_n 1, 1) := by decide +kernel
theorem dX3_cleans_15 : decode cX3_cleans 15 = .ok (.baload, 1) := by decide +kernel
theorem dX3_cleans_16 : decode cX3_cleans 16 = .ok (.ifCond .ne 6, 3) := by decide +kernel
theorem dX3_cleans_19 : decode cX3_cleans 19 = .ok (.goto 66, 3) := by decide +kernel
theorem dX3_cleans_22 : decode cX3_cleans 22 = .ok (.aload_n 0, 1) := by decide +kernel
theorem dX3_cleans_23 : decode cX3_cleans 23 = .ok (.dup, 1) := by decide +kernel
theorem dX3_cleans_24 : decode cX3_cleans 24 = .ok (.getfield 101, 3) := by decide +kernel
theorem dX3_cleans_27 : decode cX3_cleans 27 = .ok (.ldc2_w 105, 3) := by decide +kernel
theorem dX3_cleans_30 : decode cX3_cleans 30 = .ok (.ladd, 1) := by decide +kernel
theorem dX3_cleans_31 : decode cX3_cleans 31 = .ok (.putfield 101, 3) := by decide +kernel
theorem dX3_cleans_34 : decode cX3_cleans 34 = .ok (.iconst 0, 1) := by decide +kernel
theorem dX3_cleans_35 : decode cX3_cleans 35 = .ok (.istore_n 2, 1) := by decide +kernel
theorem dX3_cleans_36 : decode cX3_cleans 36 = .ok (.iload_n 2, 1) := by decide +kernel
theorem dX3_cleans_37 : decode cX3_cleans 37 = .ok (.aload_n 0, 1) := by decide +kernel
theorem dX3_cleans_38 : decode cX3_cleans 38 = .ok (.getfield 61, 3) := by decide +kernel
theorem dX3_cleans_41 : decode cX3_cleans 41 = .ok (.if_icmp .ge 44, 3) := by decide +kernel
theorem dX3_cleans_44 : decode cX3_cleans 44 = .ok (.aload_n 0, 1) := by decide +kernel
theorem dX3_cleans_45 : decode cX3_cleans 45 = .ok (.dup, 1) := by decide +kernel
theorem dX3_cleans_46 : decode cX3_cleans 46 = .ok (.getfield 101, 3) := by decide +kernel
theorem dX3_cleans_49 : decode cX3_cleans 49 = .ok (.aload_n 0, 1) := by decide +kernel
theorem dX3_cleans_50 : decode cX3_cleans 50 = .ok (.getfield 32, 3) := by decide +kernel
theorem dX3_cleans_53 : decode cX3_cleans 53 = .ok (.iload_n 2, 1) := by decide +kernel
theorem dX3_cleans_54 : decode cX3_cleans 54 = .ok (.iaload, 1) := by decide +kernel
theorem dX3_cleans_55 : decode cX3_cleans 55 = .ok (.iload_n 1, 1) := by decide +kernel
theorem dX3_cleans_56 : decode cX3_cleans 56 = .ok (.if_icmp .ne 18, 3) := by decide +kernel
theorem dX3_cleans_59 : decode cX3_cleans 59 = .ok (.aload_n 0, 1) := by decide +kernel
theorem dX3_cleans_60 : decode cX3_cleans 60 = .ok (.getfield 38, 3) := by decide +kernel
theorem dX3_cleans_63 : decode cX3_cleans 63 = .ok (.iload_n 2, 1) := by decide +kernel
theorem dX3_cleans_64 : decode cX3_cleans 64 = .ok (.baload, 1) := by decide +kernel
theorem dX3_cleans_65 : decode cX3_cleans 65 = .ok (.ifCond .eq 9, 3) := by decide +kernel
theorem dX3_cleans_68 : decode cX3_cleans 68 = .ok (.ldc2_w 107, 3) := by decide +kernel
theorem dX3_cleans_71 : decode cX3_cleans 71 = .ok (.goto 4, 3) := by decide +kernel
theorem dX3_cleans_74 : decode cX3_cleans 74 = .ok (.lconst 0, 1) := by decide +kernel
theorem dX3_cleans_75 : decode cX3_cleans 75 = .ok (.ladd, 1) := by decide +kernel
theorem dX3_cleans_76 : decode cX3_cleans 76 = .ok (.putfield 101, 3) := by decide +kernel
theorem dX3_cleans_79 : decode cX3_cleans 79 = .ok (.iinc 2 1, 3) := by decide +kernel
theorem dX3_cleans_82 : decode cX3_cleans 82 = .ok (.goto (-46), 3) := by decide +kernel
theorem dX3_cleans_85 : decode cX3_cleans 85 = .ok (.iinc 1 1, 3) := by decide +kernel
theorem dX3_cleans_88 : decode cX3_cleans 88 = .ok (.goto (-86), 3) := by decide +kernel
theorem dX3_cleans_91 : decode cX3_cleans 91 = .ok (.return_, 1) := by decide +kernel
theorem dX3_isNearer_0 : decode cX3_isNearer 0 = .ok (.iload_n 3, 1) := by decide +kernel
theorem dX3_isNearer_1 : decode cX3_isNearer 1 = .ok (.iconst (-1), 1) := by decide +kernel
theorem dX3_isNearer_2 : decode cX3_isNearer 2 = .ok (.if_icmp .ne 5, 3) := by decide +kernel
theorem dX3_isNearer_5 : decode cX3_isNearer 5 = .ok (.iconst 1, 1) := by decide +kernel
theorem dX3_isNearer_6 : decode cX3_isNearer 6 = .ok (.ireturn, 1) := by decide +kernel
theorem dX3_isNearer_7 : decode cX3_isNearer 7 = .ok (.iload_n 2, 1) := by decide +kernel
theorem dX3_isNearer_8 : decode cX3_isNearer 8 = .ok (.aload_n 0, 1) := by decide +kernel
theorem dX3_isNearer_9 : decode cX3_isNearer 9 = .ok (.getfield 47, 3) := by decide +kernel
theorem dX3_isNearer_12 : decode cX3_isNearer 12 = .ok (.iload_n 1, 1) := by decide +kernel
theorem dX3_isNearer_13 : decode cX3_isNearer 13 = .ok (.iaload, 1) := by decide +kernel
theorem dX3_isNearer_14 : decode cX3_isNearer 14 = .ok (.invokestatic 87, 3) := by decide +kernel
theorem dX3_isNearer_17 : decode cX3_isNearer 17 = .ok (.istore 4, 2) := by decide +kernel
theorem dX3_isNearer_19 : decode cX3_isNearer 19 = .ok (.iload_n 3, 1) := by decide +kernel
theorem dX3_isNearer_20 : decode cX3_isNearer 20 = .ok (.aload_n 0, 1) := by decide +kernel
theorem dX3_isNearer_21 : decode cX3_isNearer 21 = .ok (.getfield 47, 3) := by decide +kernel
theorem dX3_isNearer_24 : decode cX3_isNearer 24 = .ok (.iload_n 1, 1) := by decide +kernel
theorem dX3_isNearer_25 : decode cX3_isNearer 25 = .ok (.iaload, 1) := by decide +kernel
theorem dX3_isNearer_26 : decode cX3_isNearer 26 = .ok (.invokestatic 87, 3) := by decide +kernel
theorem dX3_isNearer_29 : decode cX3_isNearer 29 = .ok (.istore 5, 2) := by decide +kernel
theorem dX3_isNearer_31 : decode cX3_isNearer 31 = .ok (.iload 4, 2) := by decide +kernel
theorem dX3_isNearer_33 : decode cX3_isNearer 33 = .ok (.iload 5, 2) := by decide +kernel
theorem dX3_isNearer_35 : decode cX3_isNearer 35 = .ok (.if_icmp .eq 16, 3) := by decide +kernel
theorem dX3_isNearer_38 : decode cX3_isNearer 38 = .ok (.iload 4, 2) := by decide +kernel
theorem dX3_isNearer_40 : decode cX3_isNearer 40 = .ok (.iload 5, 2) := by decide +kernel
theorem dX3_isNearer_42 : decode cX3_isNearer 42 = .ok (.if_icmp .ge 7, 3) := by decide +kernel
theorem dX3_isNearer_45 : decode cX3_isNearer 45 = .ok (.iconst 1, 1) := by decide +kernel
theorem dX3_isNearer_46 : decode cX3_isNearer 46 = .ok (.goto 4, 3) := by decide +kernel
theorem dX3_isNearer_49 : decode cX3_isNearer 49 = .ok (.iconst 0, 1) := by decide +kernel
theorem dX3_isNearer_50 : decode cX3_isNearer 50 = .ok (.ireturn, 1) := by decide +kernel
theorem dX3_isNearer_51 : decode cX3_isNearer 51 = .ok (.aload_n 0, 1) := by decide +kernel
theorem dX3_isNearer_52 : decode cX3_isNearer 52 = .ok (.iload_n 2, 1) := by decide +kernel
theorem dX3_isNearer_53 : decode cX3_isNearer 53 = .ok (.aload_n 0, 1) := by decide +kernel
theorem dX3_isNearer_54 : decode cX3_isNearer 54 = .ok (.getfield 26, 3) := by decide +kernel
theorem dX3_isNearer_57 : decode cX3_isNearer 57 = .ok (.aload_n 0, 1) := by decide +kernel
theorem dX3_isNearer_58 : decode cX3_isNearer 58 = .ok (.getfield 44, 3) := by decide +kernel
theorem dX3_isNearer_61 : decode cX3_isNearer 61 = .ok (.iload_n 1, 1) := by decide +kernel
theorem dX3_isNearer_62 : decode cX3_isNearer 62 = .ok (.iaload, 1) := by decide +kernel
theorem dX3_isNearer_63 : decode cX3_isNearer 63 = .ok (.iaload, 1) := by decide +kernel
theorem dX3_isNearer_64 : decode cX3_isNearer 64 = .ok (.invokevirtual 109, 3) := by decide +kernel
theorem dX3_isNearer_67 : decode cX3_isNearer 67 = .ok (.aload_n 0, 1) := by decide +kernel
theorem dX3_isNearer_68 : decode cX3_isNearer 68 = .ok (.iload_n 3, 1) := by decide +kernel
theorem dX3_isNearer_69 : decode cX3_isNearer 69 = .ok (.aload_n 0, 1) := by decide +kernel
theorem dX3_isNearer_70 : decode cX3_isNearer 70 = .ok (.getfield 26, 3) := by decide +kernel
theorem dX3_isNearer_73 : decode cX3_isNearer 73 = .ok (.aload_n 0, 1) := by decide +kernel
theorem dX3_isNearer_74 : decode cX3_isNearer 74 = .ok (.getfield 44, 3) := by decide +kernel
theorem dX3_isNearer_77 : decode cX3_isNearer 77 = .ok (.iload_n 1, 1) := by decide +kernel
theorem dX3_isNearer_78 : decode cX3_isNearer 78 = .ok (.iaload, 1) := by decide +kernel
theorem dX3_isNearer_79 : decode cX3_isNearer 79 = .ok (.iaload, 1) := by decide +kernel
theorem dX3_isNearer_80 : decode cX3_isNearer 80 = .ok (.invokevirtual 109, 3) := by decide +kernel
theorem dX3_isNearer_83 : decode cX3_isNearer 83 = .ok (.if_icmp .le 7, 3) := by decide +kernel
theorem dX3_isNearer_86 : decode cX3_isNearer 86 = .ok (.iconst 1, 1) := by decide +kernel
theorem dX3_isNearer_87 : decode cX3_isNearer 87 = .ok (.goto 4, 3) := by decide +kernel
theorem dX3_isNearer_90 : decode cX3_isNearer 90 = .ok (.iconst 0, 1) := by decide +kernel
theorem dX3_isNearer_91 : decode cX3_isNearer 91 = .ok (.ireturn, 1) := by decide +kernel
theorem dX3_gives_0 : decode cX3_gives 0 = .ok (.iconst (-1), 1) := by decide +kernel
theorem dX3_gives_1 : decode cX3_gives 1 = .ok (.istore_n 2, 1) := by decide +kernel
theorem dX3_gives_2 : decode cX3_gives 2 = .ok (.iconst 0, 1) := by decide +kernel
theorem dX3_gives_3 : decode cX3_gives 3 = .ok (.istore_n 3, 1) := by decide +kernel
theorem dX3_gives_4 : decode cX3_gives 4 = .ok (.iload_n 3, 1) := by decide +kernel
theorem dX3_gives_5 : decode cX3_gives 5 = .ok (.aload_n 0, 1) := by decide +kernel
theorem dX3_gives_6 : decode cX3_gives 6 = .ok (.getfield 54, 3) := by decide +kernel
theorem dX3_gives_9 : decode cX3_gives 9 = .ok (.if_icmp .ge 45, 3) := by decide +kernel
theorem dX3_gives_12 : decode cX3_gives 12 = .ok (.aload_n 0, 1) := by decide +kernel
theorem dX3_gives_13 : decode cX3_gives 13 = .ok (.getfield 22, 3) := by decide +kernel
theorem dX3_gives_16 : decode cX3_gives 16 = .ok (.iload_n 3, 1) := by decide +kernel
theorem dX3_gives_17 : decode cX3_gives 17 = .ok (.baload, 1) := by decide +kernel
theorem dX3_gives_18 : decode cX3_gives 18 = .ok (.ifCond .eq 30, 3) := by decide +kernel
theorem dX3_gives_21 : decode cX3_gives 21 = .ok (.aload_n 0, 1) := by decide +kernel
theorem dX3_gives_22 : decode cX3_gives 22 = .ok (.iload_n 3, 1) := by decide +kernel
theorem dX3_gives_23 : decode cX3_gives 23 = .ok (.iconst (-1), 1) := by decide +kernel
theorem dX3_gives_24 : decode cX3_gives 24 = .ok (.invokevirtual 109, 3) := by decide +kernel
theorem dX3_gives_27 : decode cX3_gives 27 = .ok (.aload_n 0, 1) := by decide +kernel
theorem dX3_gives_28 : decode cX3_gives 28 = .ok (.getfield 7, 3) := by decide +kernel
theorem dX3_gives_31 : decode cX3_gives 31 = .ok (.iload_n 3, 1) := by decide +kernel
theorem dX3_gives_32 : decode cX3_gives 32 = .ok (.iaload, 1) := by decide +kernel
theorem dX3_gives_33 : decode cX3_gives 33 = .ok (.if_icmp .ge 15, 3) := by decide +kernel
theorem dX3_gives_36 : decode cX3_gives 36 = .ok (.aload_n 0, 1) := by decide +kernel
theorem dX3_gives_37 : decode cX3_gives 37 = .ok (.iload_n 1, 1) := by decide +kernel
theorem dX3_gives_38 : decode cX3_gives 38 = .ok (.iload_n 3, 1) := by decide +kernel
theorem dX3_gives_39 : decode cX3_gives 39 = .ok (.iload_n 2, 1) := by decide +kernel
theorem dX3_gives_40 : decode cX3_gives 40 = .ok (.invokevirtual 112, 3) := by decide +kernel
theorem dX3_gives_43 : decode cX3_gives 43 = .ok (.ifCond .eq 5, 3) := by decide +kernel
theorem dX3_gives_46 : decode cX3_gives 46 = .ok (.iload_n 3, 1) := by decide +kernel
theorem dX3_gives_47 : decode cX3_gives 47 = .ok (.istore_n 2, 1) := by decide +kernel
theorem dX3_gives_48 : decode cX3_gives 48 = .ok (.iinc 3 1, 3) := by decide +kernel
theorem dX3_gives_51 : decode cX3_gives 51 = .ok (.goto (-47), 3) := by decide +kernel
theorem dX3_gives_54 : decode cX3_gives 54 = .ok (.aload_n 0, 1) := by decide +kernel
theorem dX3_gives_55 : decode cX3_gives 55 = .ok (.getfield 32, 3) := by decide +kernel
theorem dX3_gives_58 : decode cX3_gives 58 = .ok (.aload_n 0, 1) := by decide +kernel
theorem dX3_gives_59 : decode cX3_gives 59 = .ok (.getfield 44, 3) := by decide +kernel
theorem dX3_gives_62 : decode cX3_gives 62 = .ok (.iload_n 1, 1) := by decide +kernel
theorem dX3_gives_63 : decode cX3_gives 63 = .ok (.iaload, 1) := by decide +kernel
theorem dX3_gives_64 : decode cX3_gives 64 = .ok (.iload_n 2, 1) := by decide +kernel
theorem dX3_gives_65 : decode cX3_gives 65 = .ok (.iastore, 1) := by decide +kernel
theorem dX3_gives_66 : decode cX3_gives 66 = .ok (.return_, 1) := by decide +kernel
theorem dX3_nextDay_0 : decode cX3_nextDay 0 = .ok (.aload_n 0, 1) := by decide +kernel
theorem dX3_nextDay_1 : decode cX3_nextDay 1 = .ok (.getfield 115, 3) := by decide +kernel
theorem dX3_nextDay_4 : decode cX3_nextDay 4 = .ok (.sipush 365, 3) := by decide +kernel
theorem dX3_nextDay_7 : decode cX3_nextDay 7 = .ok (.if_icmp .ne 9, 3) := by decide +kernel
theorem dX3_nextDay_10 : decode cX3_nextDay 10 = .ok (.aload_n 0, 1) := by decide +kernel
theorem dX3_nextDay_11 : decode cX3_nextDay 11 = .ok (.iconst 1, 1) := by decide +kernel
theorem dX3_nextDay_12 : decode cX3_nextDay 12 = .ok (.invokevirtual 64, 3) := by decide +kernel
theorem dX3_nextDay_15 : decode cX3_nextDay 15 = .ok (.ireturn, 1) := by decide +kernel
theorem dX3_nextDay_16 : decode cX3_nextDay 16 = .ok (.aload_n 0, 1) := by decide +kernel
theorem dX3_nextDay_17 : decode cX3_nextDay 17 = .ok (.invokevirtual 118, 3) := by decide +kernel
theorem dX3_nextDay_20 : decode cX3_nextDay 20 = .ok (.istore_n 1, 1) := by decide +kernel
theorem dX3_nextDay_21 : decode cX3_nextDay 21 = .ok (.aload_n 0, 1) := by decide +kernel
theorem dX3_nextDay_22 : decode cX3_nextDay 22 = .ok (.dup, 1) := by decide +kernel
theorem dX3_nextDay_23 : decode cX3_nextDay 23 = .ok (.getfield 121, 3) := by decide +kernel
theorem dX3_nextDay_26 : decode cX3_nextDay 26 = .ok (.iload_n 1, 1) := by decide +kernel
theorem dX3_nextDay_27 : decode cX3_nextDay 27 = .ok (.iadd, 1) := by decide +kernel
theorem dX3_nextDay_28 : decode cX3_nextDay 28 = .ok (.putfield 121, 3) := by decide +kernel
theorem dX3_nextDay_31 : decode cX3_nextDay 31 = .ok (.aload_n 0, 1) := by decide +kernel
theorem dX3_nextDay_32 : decode cX3_nextDay 32 = .ok (.invokevirtual 124, 3) := by decide +kernel
theorem dX3_nextDay_35 : decode cX3_nextDay 35 = .ok (.aload_n 0, 1) := by decide +kernel
theorem dX3_nextDay_36 : decode cX3_nextDay 36 = .ok (.invokevirtual 97, 3) := by decide +kernel
theorem dX3_nextDay_39 : decode cX3_nextDay 39 = .ok (.istore_n 2, 1) := by decide +kernel
theorem dX3_nextDay_40 : decode cX3_nextDay 40 = .ok (.iconst 0, 1) := by decide +kernel
theorem dX3_nextDay_41 : decode cX3_nextDay 41 = .ok (.istore_n 3, 1) := by decide +kernel
theorem dX3_nextDay_42 : decode cX3_nextDay 42 = .ok (.iload_n 3, 1) := by decide +kernel
theorem dX3_nextDay_43 : decode cX3_nextDay 43 = .ok (.aload_n 0, 1) := by decide +kernel
theorem dX3_nextDay_44 : decode cX3_nextDay 44 = .ok (.getfield 54, 3) := by decide +kernel
theorem dX3_nextDay_47 : decode cX3_nextDay 47 = .ok (.if_icmp .ge 29, 3) := by decide +kernel
theorem dX3_nextDay_50 : decode cX3_nextDay 50 = .ok (.aload_n 0, 1) := by decide +kernel
theorem dX3_nextDay_51 : decode cX3_nextDay 51 = .ok (.getfield 22, 3) := by decide +kernel
theorem dX3_nextDay_54 : decode cX3_nextDay 54 = .ok (.iload_n 3, 1) := by decide +kernel
theorem dX3_nextDay_55 : decode cX3_nextDay 55 = .ok (.iload_n 2, 1) := by decide +kernel
theorem dX3_nextDay_56 : decode cX3_nextDay 56 = .ok (.iload_n 3, 1) := by decide +kernel
theorem dX3_nextDay_57 : decode cX3_nextDay 57 = .ok (.ishr, 1) := by decide +kernel
theorem dX3_nextDay_58 : decode cX3_nextDay 58 = .ok (.iconst 1, 1) := by decide +kernel
theorem dX3_nextDay_59 : decode cX3_nextDay 59 = .ok (.iand, 1) := by decide +kernel
theorem dX3_nextDay_60 : decode cX3_nextDay 60 = .ok (.iconst 1, 1) := by decide +kernel
theorem dX3_nextDay_61 : decode cX3_nextDay 61 = .ok (.if_icmp .ne 7, 3) := by decide +kernel
theorem dX3_nextDay_64 : decode cX3_nextDay 64 = .ok (.iconst 1, 1) := by decide +kernel
theorem dX3_nextDay_65 : decode cX3_nextDay 65 = .ok (.goto 4, 3) := by decide +kernel
theorem dX3_nextDay_68 : decode cX3_nextDay 68 = .ok (.iconst 0, 1) := by decide +kernel
theorem dX3_nextDay_69 : decode cX3_nextDay 69 = .ok (.bastore, 1) := by decide +kernel
theorem dX3_nextDay_70 : decode cX3_nextDay 70 = .ok (.iinc 3 1, 3) := by decide +kernel
theorem dX3_nextDay_73 : decode cX3_nextDay 73 = .ok (.goto (-31), 3) := by decide +kernel
theorem dX3_nextDay_76 : decode cX3_nextDay 76 = .ok (.iconst 0, 1) := by decide +kernel
theorem dX3_nextDay_77 : decode cX3_nextDay 77 = .ok (.istore_n 3, 1) := by decide +kernel
theorem dX3_nextDay_78 : decode cX3_nextDay 78 = .ok (.iload_n 3, 1) := by decide +kernel
theorem dX3_nextDay_79 : decode cX3_nextDay 79 = .ok (.aload_n 0, 1) := by decide +kernel
theorem dX3_nextDay_80 : decode cX3_nextDay 80 = .ok (.getfield 61, 3) := by decide +kernel
theorem dX3_nextDay_83 : decode cX3_nextDay 83 = .ok (.if_icmp .ge 30, 3) := by decide +kernel
theorem dX3_nextDay_86 : decode cX3_nextDay 86 = .ok (.aload_n 0, 1) := by decide +kernel
theorem dX3_nextDay_87 : decode cX3_nextDay 87 = .ok (.getfield 32, 3) := by decide +kernel
theorem dX3_nextDay_90 : decode cX3_nextDay 90 = .ok (.iload_n 3, 1) := by decide +kernel
theorem dX3_nextDay_91 : decode cX3_nextDay 91 = .ok (.iconst (-1), 1) := by decide +kernel
theorem dX3_nextDay_92 : decode cX3_nextDay 92 = .ok (.iastore, 1) := by decide +kernel
theorem dX3_nextDay_93 : decode cX3_nextDay 93 = .ok (.aload_n 0, 1) := by decide +kernel
theorem dX3_nextDay_94 : decode cX3_nextDay 94 = .ok (.getfield 35, 3) := by decide +kernel
theorem dX3_nextDay_97 : decode cX3_nextDay 97 = .ok (.iload_n 3, 1) := by decide +kernel
theorem dX3_nextDay_98 : decode cX3_nextDay 98 = .ok (.iconst 0, 1) := by decide +kernel
theorem dX3_nextDay_99 : decode cX3_nextDay 99 = .ok (.bastore, 1) := by decide +kernel
theorem dX3_nextDay_100 : decode cX3_nextDay 100 = .ok (.aload_n 0, 1) := by decide +kernel
theorem dX3_nextDay_101 : decode cX3_nextDay 101 = .ok (.getfield 38, 3) := by decide +kernel
theorem dX3_nextDay_104 : decode cX3_nextDay 104 = .ok (.iload_n 3, 1) := by decide +kernel
theorem dX3_nextDay_105 : decode cX3_nextDay 105 = .ok (.iconst 0, 1) := by decide +kernel
theorem dX3_nextDay_106 : decode cX3_nextDay 106 = .ok (.bastore, 1) := by decide +kernel
theorem dX3_nextDay_107 : decode cX3_nextDay 107 = .ok (.iinc 3 1, 3) := by decide +kernel
theorem dX3_nextDay_110 : decode cX3_nextDay 110 = .ok (.goto (-32), 3) := by decide +kernel
theorem dX3_nextDay_113 : decode cX3_nextDay 113 = .ok (.bipush 10, 2) := by decide +kernel
theorem dX3_nextDay_115 : decode cX3_nextDay 115 = .ok (.istore_n 3, 1) := by decide +kernel
theorem dX3_nextDay_116 : decode cX3_nextDay 116 = .ok (.iload_n 3, 1) := by decide +kernel
theorem dX3_nextDay_117 : decode cX3_nextDay 117 = .ok (.ifCond .lt 49, 3) := by decide +kernel
theorem dX3_nextDay_120 : decode cX3_nextDay 120 = .ok (.iconst 0, 1) := by decide +kernel
theorem dX3_nextDay_121 : decode cX3_nextDay 121 = .ok (.istore 4, 2) := by decide +kernel
theorem dX3_nextDay_123 : decode cX3_nextDay 123 = .ok (.iload 4, 2) := by decide +kernel
theorem dX3_nextDay_125 : decode cX3_nextDay 125 = .ok (.aload_n 0, 1) := by decide +kernel
theorem dX3_nextDay_126 : decode cX3_nextDay 126 = .ok (.getfield 78, 3) := by decide +kernel
theorem dX3_nextDay_129 : decode cX3_nextDay 129 = .ok (.if_icmp .ge 31, 3) := by decide +kernel
theorem dX3_nextDay_132 : decode cX3_nextDay 132 = .ok (.aload_n 0, 1) := by decide +kernel
theorem dX3_nextDay_133 : decode cX3_nextDay 133 = .ok (.getfield 29, 3) := by decide +kernel
theorem dX3_nextDay_136 : decode cX3_nextDay 136 = .ok (.aload_n 0, 1) := by decide +kernel
theorem dX3_nextDay_137 : decode cX3_nextDay 137 = .ok (.getfield 44, 3) := by decide +kernel
theorem dX3_nextDay_140 : decode cX3_nextDay 140 = .ok (.iload 4, 2) := by decide +kernel
theorem dX3_nextDay_142 : decode cX3_nextDay 142 = .ok (.iaload, 1) := by decide +kernel
theorem dX3_nextDay_143 : decode cX3_nextDay 143 = .ok (.iaload, 1) := by decide +kernel
theorem dX3_nextDay_144 : decode cX3_nextDay 144 = .ok (.iload_n 3, 1) := by decide +kernel
theorem dX3_nextDay_145 : decode cX3_nextDay 145 = .ok (.if_icmp .ne 9, 3) := by decide +kernel
theorem dX3_nextDay_148 : decode cX3_nextDay 148 = .ok (.aload_n 0, 1) := by decide +kernel
theorem dX3_nextDay_149 : decode cX3_nextDay 149 = .ok (.iload 4, 2) := by decide +kernel
theorem dX3_nextDay_151 : decode cX3_nextDay 151 = .ok (.invokevirtual 127, 3) := by decide +kernel
theorem dX3_nextDay_154 : decode cX3_nextDay 154 = .ok (.iinc 4 1, 3) := by decide +kernel
theorem dX3_nextDay_157 : decode cX3_nextDay 157 = .ok (.goto (-34), 3) := by decide +kernel
theorem dX3_nextDay_160 : decode cX3_nextDay 160 = .ok (.iinc 3 (-1), 3) := by decide +kernel
theorem dX3_nextDay_163 : decode cX3_nextDay 163 = .ok (.goto (-47), 3) := by decide +kernel
theorem dX3_nextDay_166 : decode cX3_nextDay 166 = .ok (.aload_n 0, 1) := by decide +kernel
theorem dX3_nextDay_167 : decode cX3_nextDay 167 = .ok (.iconst 0, 1) := by decide +kernel
theorem dX3_nextDay_168 : decode cX3_nextDay 168 = .ok (.putfield 78, 3) := by decide +kernel
theorem dX3_nextDay_171 : decode cX3_nextDay 171 = .ok (.aload_n 0, 1) := by decide +kernel
theorem dX3_nextDay_172 : decode cX3_nextDay 172 = .ok (.dup, 1) := by decide +kernel
theorem dX3_nextDay_173 : decode cX3_nextDay 173 = .ok (.getfield 115, 3) := by decide +kernel
theorem dX3_nextDay_176 : decode cX3_nextDay 176 = .ok (.iconst 1, 1) := by decide +kernel
theorem dX3_nextDay_177 : decode cX3_nextDay 177 = .ok (.iadd, 1) := by decide +kernel
theorem dX3_nextDay_178 : decode cX3_nextDay 178 = .ok (.putfield 115, 3) := by decide +kernel
theorem dX3_nextDay_181 : decode cX3_nextDay 181 = .ok (.aload_n 0, 1) := by decide +kernel
theorem dX3_nextDay_182 : decode cX3_nextDay 182 = .ok (.iload_n 1, 1) := by decide +kernel
theorem dX3_nextDay_183 : decode cX3_nextDay 183 = .ok (.invokevirtual 68, 3) := by decide +kernel
theorem dX3_nextDay_186 : decode cX3_nextDay 186 = .ok (.ireturn, 1) := by decide +kernel
theorem dX3_day_0 : decode cX3_day 0 = .ok (.aload_n 0, 1) := by decide +kernel
theorem dX3_day_1 : decode cX3_day 1 = .ok (.aload_n 0, 1) := by decide +kernel
theorem dX3_day_2 : decode cX3_day 2 = .ok (.getfield 115, 3) := by decide +kernel
theorem dX3_day_5 : decode cX3_day 5 = .ok (.invokevirtual 68, 3) := by decide +kernel
theorem dX3_day_8 : decode cX3_day 8 = .ok (.ireturn, 1) := by decide +kernel
theorem dX3_comeIn_0 : decode cX3_comeIn 0 = .ok (.aload_n 0, 1) := by decide +kernel
theorem dX3_comeIn_1 : decode cX3_comeIn 1 = .ok (.iload_n 1, 1) := by decide +kernel
theorem dX3_comeIn_2 : decode cX3_comeIn 2 = .ok (.invokevirtual 75, 3) := by decide +kernel
theorem dX3_comeIn_5 : decode cX3_comeIn 5 = .ok (.ifCond .eq 13, 3) := by decide +kernel
theorem dX3_comeIn_8 : decode cX3_comeIn 8 = .ok (.aload_n 0, 1) := by decide +kernel
theorem dX3_comeIn_9 : decode cX3_comeIn 9 = .ok (.getfield 32, 3) := by decide +kernel
theorem dX3_comeIn_12 : decode cX3_comeIn 12 = .ok (.iload_n 1, 1) := by decide +kernel
theorem dX3_comeIn_13 : decode cX3_comeIn 13 = .ok (.iaload, 1) := by decide +kernel
theorem dX3_comeIn_14 : decode cX3_comeIn 14 = .ok (.iconst (-1), 1) := by decide +kernel
theorem dX3_comeIn_15 : decode cX3_comeIn 15 = .ok (.if_icmp .ne 9, 3) := by decide +kernel
theorem dX3_comeIn_18 : decode cX3_comeIn 18 = .ok (.aload_n 0, 1) := by decide +kernel
theorem dX3_comeIn_19 : decode cX3_comeIn 19 = .ok (.iconst 1, 1) := by decide +kernel
theorem dX3_comeIn_20 : decode cX3_comeIn 20 = .ok (.invokevirtual 64, 3) := by decide +kernel
theorem dX3_comeIn_23 : decode cX3_comeIn 23 = .ok (.ireturn, 1) := by decide +kernel
theorem dX3_comeIn_24 : decode cX3_comeIn 24 = .ok (.aload_n 0, 1) := by decide +kernel
theorem dX3_comeIn_25 : decode cX3_comeIn 25 = .ok (.getfield 35, 3) := by decide +kernel
theorem dX3_comeIn_28 : decode cX3_comeIn 28 = .ok (.iload_n 1, 1) := by decide +kernel
theorem dX3_comeIn_29 : decode cX3_comeIn 29 = .ok (.baload, 1) := by decide +kernel
theorem dX3_comeIn_30 : decode cX3_comeIn 30 = .ok (.ifCond .eq 9, 3) := by decide +kernel
theorem dX3_comeIn_33 : decode cX3_comeIn 33 = .ok (.aload_n 0, 1) := by decide +kernel
theorem dX3_comeIn_34 : decode cX3_comeIn 34 = .ok (.iconst 2, 1) := by decide +kernel
theorem dX3_comeIn_35 : decode cX3_comeIn 35 = .ok (.invokevirtual 64, 3) := by decide +kernel
theorem dX3_comeIn_38 : decode cX3_comeIn 38 = .ok (.ireturn, 1) := by decide +kernel
theorem dX3_comeIn_39 : decode cX3_comeIn 39 = .ok (.aload_n 0, 1) := by decide +kernel
theorem dX3_comeIn_40 : decode cX3_comeIn 40 = .ok (.getfield 35, 3) := by decide +kernel
theorem dX3_comeIn_43 : decode cX3_comeIn 43 = .ok (.iload_n 1, 1) := by decide +kernel
theorem dX3_comeIn_44 : decode cX3_comeIn 44 = .ok (.iconst 1, 1) := by decide +kernel
theorem dX3_comeIn_45 : decode cX3_comeIn 45 = .ok (.bastore, 1) := by decide +kernel
theorem dX3_comeIn_46 : decode cX3_comeIn 46 = .ok (.aload_n 0, 1) := by decide +kernel
theorem dX3_comeIn_47 : decode cX3_comeIn 47 = .ok (.getfield 38, 3) := by decide +kernel
theorem dX3_comeIn_50 : decode cX3_comeIn 50 = .ok (.iload_n 1, 1) := by decide +kernel
theorem dX3_comeIn_51 : decode cX3_comeIn 51 = .ok (.iconst 1, 1) := by decide +kernel
theorem dX3_comeIn_52 : decode cX3_comeIn 52 = .ok (.bastore, 1) := by decide +kernel
theorem dX3_comeIn_53 : decode cX3_comeIn 53 = .ok (.aload_n 0, 1) := by decide +kernel
theorem dX3_comeIn_54 : decode cX3_comeIn 54 = .ok (.aload_n 0, 1) := by decide +kernel
theorem dX3_comeIn_55 : decode cX3_comeIn 55 = .ok (.getfield 32, 3) := by decide +kernel
theorem dX3_comeIn_58 : decode cX3_comeIn 58 = .ok (.iload_n 1, 1) := by decide +kernel
theorem dX3_comeIn_59 : decode cX3_comeIn 59 = .ok (.iaload, 1) := by decide +kernel
theorem dX3_comeIn_60 : decode cX3_comeIn 60 = .ok (.invokevirtual 68, 3) := by decide +kernel
theorem dX3_comeIn_63 : decode cX3_comeIn 63 = .ok (.ireturn, 1) := by decide +kernel
theorem dX3_leave_0 : decode cX3_leave 0 = .ok (.aload_n 0, 1) := by decide +kernel
theorem dX3_leave_1 : decode cX3_leave 1 = .ok (.iload_n 1, 1) := by decide +kernel
theorem dX3_leave_2 : decode cX3_leave 2 = .ok (.invokevirtual 75, 3) := by decide +kernel
theorem dX3_leave_5 : decode cX3_leave 5 = .ok (.ifCond .ne 9, 3) := by decide +kernel
theorem dX3_leave_8 : decode cX3_leave 8 = .ok (.aload_n 0, 1) := by decide +kernel
theorem dX3_leave_9 : decode cX3_leave 9 = .ok (.iconst 1, 1) := by decide +kernel
theorem dX3_leave_10 : decode cX3_leave 10 = .ok (.invokevirtual 64, 3) := by decide +kernel
theorem dX3_leave_13 : decode cX3_leave 13 = .ok (.ireturn, 1) := by decide +kernel
theorem dX3_leave_14 : decode cX3_leave 14 = .ok (.aload_n 0, 1) := by decide +kernel
theorem dX3_leave_15 : decode cX3_leave 15 = .ok (.getfield 35, 3) := by decide +kernel
theorem dX3_leave_18 : decode cX3_leave 18 = .ok (.iload_n 1, 1) := by decide +kernel
theorem dX3_leave_19 : decode cX3_leave 19 = .ok (.baload, 1) := by decide +kernel
theorem dX3_leave_20 : decode cX3_leave 20 = .ok (.ifCond .ne 9, 3) := by decide +kernel
theorem dX3_leave_23 : decode cX3_leave 23 = .ok (.aload_n 0, 1) := by decide +kernel
theorem dX3_leave_24 : decode cX3_leave 24 = .ok (.iconst 2, 1) := by decide +kernel
theorem dX3_leave_25 : decode cX3_leave 25 = .ok (.invokevirtual 64, 3) := by decide +kernel
theorem dX3_leave_28 : decode cX3_leave 28 = .ok (.ireturn, 1) := by decide +kernel
theorem dX3_leave_29 : decode cX3_leave 29 = .ok (.aload_n 0, 1) := by decide +kernel
theorem dX3_leave_30 : decode cX3_leave 30 = .ok (.getfield 35, 3) := by decide +kernel
theorem dX3_leave_33 : decode cX3_leave 33 = .ok (.iload_n 1, 1) := by decide +kernel
theorem dX3_leave_34 : decode cX3_leave 34 = .ok (.iconst 0, 1) := by decide +kernel
theorem dX3_leave_35 : decode cX3_leave 35 = .ok (.bastore, 1) := by decide +kernel
theorem dX3_leave_36 : decode cX3_leave 36 = .ok (.iconst 0, 1) := by decide +kernel
theorem dX3_leave_37 : decode cX3_leave 37 = .ok (.istore_n 2, 1) := by decide +kernel
theorem dX3_leave_38 : decode cX3_leave 38 = .ok (.iconst 0, 1) := by decide +kernel
theorem dX3_leave_39 : decode cX3_leave 39 = .ok (.istore_n 3, 1) := by decide +kernel
theorem dX3_leave_40 : decode cX3_leave 40 = .ok (.iload_n 3, 1) := by decide +kernel
theorem dX3_leave_41 : decode cX3_leave 41 = .ok (.aload_n 0, 1) := by decide +kernel
theorem dX3_leave_42 : decode cX3_leave 42 = .ok (.getfield 61, 3) := by decide +kernel
theorem dX3_leave_45 : decode cX3_leave 45 = .ok (.if_icmp .ge 26, 3) := by decide +kernel
theorem dX3_leave_48 : decode cX3_leave 48 = .ok (.iload_n 2, 1) := by decide +kernel
theorem dX3_leave_49 : decode cX3_leave 49 = .ok (.aload_n 0, 1) := by decide +kernel
theorem dX3_leave_50 : decode cX3_leave 50 = .ok (.getfield 35, 3) := by decide +kernel
theorem dX3_leave_53 : decode cX3_leave 53 = .ok (.iload_n 3, 1) := by decide +kernel
theorem dX3_leave_54 : decode cX3_leave 54 = .ok (.baload, 1) := by decide +kernel
theorem dX3_leave_55 : decode cX3_leave 55 = .ok (.ifCond .eq 7, 3) := by decide +kernel
theorem dX3_leave_58 : decode cX3_leave 58 = .ok (.iconst 1, 1) := by decide +kernel
theorem dX3_leave_59 : decode cX3_leave 59 = .ok (.goto 4, 3) := by decide +kernel
theorem dX3_leave_62 : decode cX3_leave 62 = .ok (.iconst 0, 1) := by decide +kernel
theorem dX3_leave_63 : decode cX3_leave 63 = .ok (.iadd, 1) := by decide +kernel
theorem dX3_leave_64 : decode cX3_leave 64 = .ok (.istore_n 2, 1) := by decide +kernel
theorem dX3_leave_65 : decode cX3_leave 65 = .ok (.iinc 3 1, 3) := by decide +kernel
theorem dX3_leave_68 : decode cX3_leave 68 = .ok (.goto (-28), 3) := by decide +kernel
theorem dX3_leave_71 : decode cX3_leave 71 = .ok (.aload_n 0, 1) := by decide +kernel
theorem dX3_leave_72 : decode cX3_leave 72 = .ok (.iload_n 2, 1) := by decide +kernel
theorem dX3_leave_73 : decode cX3_leave 73 = .ok (.invokevirtual 68, 3) := by decide +kernel
theorem dX3_leave_76 : decode cX3_leave 76 = .ok (.ireturn, 1) := by decide +kernel
theorem dX3_seatOf_0 : decode cX3_seatOf 0 = .ok (.aload_n 0, 1) := by decide +kernel
theorem dX3_seatOf_1 : decode cX3_seatOf 1 = .ok (.iload_n 1, 1) := by decide +kernel
theorem dX3_seatOf_2 : decode cX3_seatOf 2 = .ok (.invokevirtual 75, 3) := by decide +kernel
theorem dX3_seatOf_5 : decode cX3_seatOf 5 = .ok (.ifCond .eq 16, 3) := by decide +kernel
theorem dX3_seatOf_8 : decode cX3_seatOf 8 = .ok (.aload_n 0, 1) := by decide +kernel
theorem dX3_seatOf_9 : decode cX3_seatOf 9 = .ok (.aload_n 0, 1) := by decide +kernel
theorem dX3_seatOf_10 : decode cX3_seatOf 10 = .ok (.getfield 32, 3) := by decide +kernel
theorem dX3_seatOf_13 : decode cX3_seatOf 13 = .ok (.iload_n 1, 1) := by decide +kernel
theorem dX3_seatOf_14 : decode cX3_seatOf 14 = .ok (.iaload, 1) := by decide +kernel
theorem dX3_seatOf_15 : decode cX3_seatOf 15 = .ok (.invokevirtual 68, 3) := by decide +kernel
theorem dX3_seatOf_18 : decode cX3_seatOf 18 = .ok (.goto 8, 3) := by decide +kernel
theorem dX3_seatOf_21 : decode cX3_seatOf 21 = .ok (.aload_n 0, 1) := by decide +kernel
theorem dX3_seatOf_22 : decode cX3_seatOf 22 = .ok (.iconst 1, 1) := by decide +kernel
theorem dX3_seatOf_23 : decode cX3_seatOf 23 = .ok (.invokevirtual 64, 3) := by decide +kernel
theorem dX3_seatOf_26 : decode cX3_seatOf 26 = .ok (.ireturn, 1) := by decide +kernel
theorem dX3_isIn_0 : decode cX3_isIn 0 = .ok (.aload_n 0, 1) := by decide +kernel
theorem dX3_isIn_1 : decode cX3_isIn 1 = .ok (.aload_n 0, 1) := by decide +kernel
theorem dX3_isIn_2 : decode cX3_isIn 2 = .ok (.iload_n 1, 1) := by decide +kernel
theorem dX3_isIn_3 : decode cX3_isIn 3 = .ok (.invokevirtual 75, 3) := by decide +kernel
theorem dX3_isIn_6 : decode cX3_isIn 6 = .ok (.ifCond .eq 7, 3) := by decide +kernel
theorem dX3_isIn_9 : decode cX3_isIn 9 = .ok (.iconst 0, 1) := by decide +kernel
theorem dX3_isIn_10 : decode cX3_isIn 10 = .ok (.goto 4, 3) := by decide +kernel
theorem dX3_isIn_13 : decode cX3_isIn 13 = .ok (.iconst 1, 1) := by decide +kernel
theorem dX3_isIn_14 : decode cX3_isIn 14 = .ok (.aload_n 0, 1) := by decide +kernel
theorem dX3_isIn_15 : decode cX3_isIn 15 = .ok (.iload_n 1, 1) := by decide +kernel
theorem dX3_isIn_16 : decode cX3_isIn 16 = .ok (.invokevirtual 75, 3) := by decide +kernel
theorem dX3_isIn_19 : decode cX3_isIn 19 = .ok (.ifCond .eq 16, 3) := by decide +kernel
theorem dX3_isIn_22 : decode cX3_isIn 22 = .ok (.aload_n 0, 1) := by decide +kernel
theorem dX3_isIn_23 : decode cX3_isIn 23 = .ok (.getfield 35, 3) := by decide +kernel
theorem dX3_isIn_26 : decode cX3_isIn 26 = .ok (.iload_n 1, 1) := by decide +kernel
theorem dX3_isIn_27 : decode cX3_isIn 27 = .ok (.baload, 1) := by decide +kernel
theorem dX3_isIn_28 : decode cX3_isIn 28 = .ok (.ifCond .eq 7, 3) := by decide +kernel
theorem dX3_isIn_31 : decode cX3_isIn 31 = .ok (.iconst 1, 1) := by decide +kernel
theorem dX3_isIn_32 : decode cX3_isIn 32 = .ok (.goto 4, 3) := by decide +kernel
theorem dX3_isIn_35 : decode cX3_isIn 35 = .ok (.iconst 0, 1) := by decide +kernel
theorem dX3_isIn_36 : decode cX3_isIn 36 = .ok (.invokevirtual 131, 3) := by decide +kernel
theorem dX3_isIn_39 : decode cX3_isIn 39 = .ok (.ireturn, 1) := by decide +kernel
theorem dX3_isOpen_0 : decode cX3_isOpen 0 = .ok (.aload_n 0, 1) := by decide +kernel
theorem dX3_isOpen_1 : decode cX3_isOpen 1 = .ok (.aload_n 0, 1) := by decide +kernel
theorem dX3_isOpen_2 : decode cX3_isOpen 2 = .ok (.iload_n 1, 1) := by decide +kernel
theorem dX3_isOpen_3 : decode cX3_isOpen 3 = .ok (.invokevirtual 71, 3) := by decide +kernel
theorem dX3_isOpen_6 : decode cX3_isOpen 6 = .ok (.ifCond .eq 7, 3) := by decide +kernel
theorem dX3_isOpen_9 : decode cX3_isOpen 9 = .ok (.iconst 0, 1) := by decide +kernel
theorem dX3_isOpen_10 : decode cX3_isOpen 10 = .ok (.goto 4, 3) := by decide +kernel
theorem dX3_isOpen_13 : decode cX3_isOpen 13 = .ok (.iconst 1, 1) := by decide +kernel
theorem dX3_isOpen_14 : decode cX3_isOpen 14 = .ok (.aload_n 0, 1) := by decide +kernel
theorem dX3_isOpen_15 : decode cX3_isOpen 15 = .ok (.iload_n 1, 1) := by decide +kernel
theorem dX3_isOpen_16 : decode cX3_isOpen 16 = .ok (.invokevirtual 71, 3) := by decide +kernel
theorem dX3_isOpen_19 : decode cX3_isOpen 19 = .ok (.ifCond .eq 16, 3) := by decide +kernel
theorem dX3_isOpen_22 : decode cX3_isOpen 22 = .ok (.aload_n 0, 1) := by decide +kernel
theorem dX3_isOpen_23 : decode cX3_isOpen 23 = .ok (.getfield 22, 3) := by decide +kernel
theorem dX3_isOpen_26 : decode cX3_isOpen 26 = .ok (.iload_n 1, 1) := by decide +kernel
theorem dX3_isOpen_27 : decode cX3_isOpen 27 = .ok (.baload, 1) := by decide +kernel
theorem dX3_isOpen_28 : decode cX3_isOpen 28 = .ok (.ifCond .eq 7, 3) := by decide +kernel
theorem dX3_isOpen_31 : decode cX3_isOpen 31 = .ok (.iconst 1, 1) := by decide +kernel
theorem dX3_isOpen_32 : decode cX3_isOpen 32 = .ok (.goto 4, 3) := by decide +kernel
theorem dX3_isOpen_35 : decode cX3_isOpen 35 = .ok (.iconst 0, 1) := by decide +kernel
theorem dX3_isOpen_36 : decode cX3_isOpen 36 = .ok (.invokevirtual 131, 3) := by decide +kernel
theorem dX3_isOpen_39 : decode cX3_isOpen 39 = .ok (.ireturn, 1) := by decide +kernel
theorem dX3_seated_0 : decode cX3_seated 0 = .ok (.aload_n 0, 1) := by decide +kernel
theorem dX3_seated_1 : decode cX3_seated 1 = .ok (.iload_n 2, 1) := by decide +kernel
theorem dX3_seated_2 : decode cX3_seated 2 = .ok (.invokevirtual 71, 3) := by decide +kernel
theorem dX3_seated_5 : decode cX3_seated 5 = .ok (.ifCond .ne 9, 3) := by decide +kernel
theorem dX3_seated_8 : decode cX3_seated 8 = .ok (.aload_n 0, 1) := by decide +kernel
theorem dX3_seated_9 : decode cX3_seated 9 = .ok (.iconst 1, 1) := by decide +kernel
theorem dX3_seated_10 : decode cX3_seated 10 = .ok (.invokevirtual 64, 3) := by decide +kernel
theorem dX3_seated_13 : decode cX3_seated 13 = .ok (.ireturn, 1) := by decide +kernel
theorem dX3_seated_14 : decode cX3_seated 14 = .ok (.iload_n 1, 1) := by decide +kernel
theorem dX3_seated_15 : decode cX3_seated 15 = .ok (.iconst 0, 1) := by decide +kernel
theorem dX3_seated_16 : decode cX3_seated 16 = .ok (.iconst 3, 1) := by decide +kernel
theorem dX3_seated_17 : decode cX3_seated 17 = .ok (.invokestatic 57, 3) := by decide +kernel
theorem dX3_seated_20 : decode cX3_seated 20 = .ok (.ifCond .eq 16, 3) := by decide +kernel
theorem dX3_seated_23 : decode cX3_seated 23 = .ok (.aload_n 0, 1) := by decide +kernel
theorem dX3_seated_24 : decode cX3_seated 24 = .ok (.aload_n 0, 1) := by decide +kernel
theorem dX3_seated_25 : decode cX3_seated 25 = .ok (.iload_n 2, 1) := by decide +kernel
theorem dX3_seated_26 : decode cX3_seated 26 = .ok (.iload_n 1, 1) := by decide +kernel
theorem dX3_seated_27 : decode cX3_seated 27 = .ok (.invokevirtual 109, 3) := by decide +kernel
theorem dX3_seated_30 : decode cX3_seated 30 = .ok (.invokevirtual 68, 3) := by decide +kernel
theorem dX3_seated_33 : decode cX3_seated 33 = .ok (.goto 8, 3) := by decide +kernel
theorem dX3_seated_36 : decode cX3_seated 36 = .ok (.aload_n 0, 1) := by decide +kernel
theorem dX3_seated_37 : decode cX3_seated 37 = .ok (.iconst 2, 1) := by decide +kernel
theorem dX3_seated_38 : decode cX3_seated 38 = .ok (.invokevirtual 64, 3) := by decide +kernel
theorem dX3_seated_41 : decode cX3_seated 41 = .ok (.ireturn, 1) := by decide +kernel
theorem dX3_inside_0 : decode cX3_inside 0 = .ok (.iconst 0, 1) := by decide +kernel
theorem dX3_inside_1 : decode cX3_inside 1 = .ok (.istore_n 2, 1) := by decide +kernel
theorem dX3_inside_2 : decode cX3_inside 2 = .ok (.iconst 0, 1) := by decide +kernel
theorem dX3_inside_3 : decode cX3_inside 3 = .ok (.istore_n 3, 1) := by decide +kernel
theorem dX3_inside_4 : decode cX3_inside 4 = .ok (.iload_n 3, 1) := by decide +kernel
theorem dX3_inside_5 : decode cX3_inside 5 = .ok (.aload_n 0, 1) := by decide +kernel
theorem dX3_inside_6 : decode cX3_inside 6 = .ok (.getfield 61, 3) := by decide +kernel
theorem dX3_inside_9 : decode cX3_inside 9 = .ok (.if_icmp .ge 36, 3) := by decide +kernel
theorem dX3_inside_12 : decode cX3_inside 12 = .ok (.iload_n 2, 1) := by decide +kernel
theorem dX3_inside_13 : decode cX3_inside 13 = .ok (.aload_n 0, 1) := by decide +kernel
theorem dX3_inside_14 : decode cX3_inside 14 = .ok (.getfield 35, 3) := by decide +kernel
theorem dX3_inside_17 : decode cX3_inside 17 = .ok (.iload_n 3, 1) := by decide +kernel
theorem dX3_inside_18 : decode cX3_inside 18 = .ok (.baload, 1) := by decide +kernel
theorem dX3_inside_19 : decode cX3_inside 19 = .ok (.ifCond .eq 17, 3) := by decide +kernel
theorem dX3_inside_22 : decode cX3_inside 22 = .ok (.aload_n 0, 1) := by decide +kernel
theorem dX3_inside_23 : decode cX3_inside 23 = .ok (.getfield 32, 3) := by decide +kernel
theorem dX3_inside_26 : decode cX3_inside 26 = .ok (.iload_n 3, 1) := by decide +kernel
theorem dX3_inside_27 : decode cX3_inside 27 = .ok (.iaload, 1) := by decide +kernel
theorem dX3_inside_28 : decode cX3_inside 28 = .ok (.iload_n 1, 1) := by decide +kernel
theorem dX3_inside_29 : decode cX3_inside 29 = .ok (.if_icmp .ne 7, 3) := by decide +kernel
theorem dX3_inside_32 : decode cX3_inside 32 = .ok (.iconst 1, 1) := by decide +kernel
theorem dX3_inside_33 : decode cX3_inside 33 = .ok (.goto 4, 3) := by decide +kernel
theorem dX3_inside_36 : decode cX3_inside 36 = .ok (.iconst 0, 1) := by decide +kernel
theorem dX3_inside_37 : decode cX3_inside 37 = .ok (.iadd, 1) := by decide +kernel
theorem dX3_inside_38 : decode cX3_inside 38 = .ok (.istore_n 2, 1) := by decide +kernel
theorem dX3_inside_39 : decode cX3_inside 39 = .ok (.iinc 3 1, 3) := by decide +kernel
theorem dX3_inside_42 : decode cX3_inside 42 = .ok (.goto (-38), 3) := by decide +kernel
theorem dX3_inside_45 : decode cX3_inside 45 = .ok (.iload_n 2, 1) := by decide +kernel
theorem dX3_inside_46 : decode cX3_inside 46 = .ok (.ireturn, 1) := by decide +kernel
theorem dX3_hour_0 : decode cX3_hour 0 = .ok (.aload_n 0, 1) := by decide +kernel
theorem dX3_hour_1 : decode cX3_hour 1 = .ok (.iload_n 1, 1) := by decide +kernel
theorem dX3_hour_2 : decode cX3_hour 2 = .ok (.invokevirtual 135, 3) := by decide +kernel
theorem dX3_hour_5 : decode cX3_hour 5 = .ok (.istore_n 2, 1) := by decide +kernel
theorem dX3_hour_6 : decode cX3_hour 6 = .ok (.aload_n 0, 1) := by decide +kernel
theorem dX3_hour_7 : decode cX3_hour 7 = .ok (.getfield 22, 3) := by decide +kernel
theorem dX3_hour_10 : decode cX3_hour 10 = .ok (.iload_n 1, 1) := by decide +kernel
theorem dX3_hour_11 : decode cX3_hour 11 = .ok (.baload, 1) := by decide +kernel
theorem dX3_hour_12 : decode cX3_hour 12 = .ok (.ifCond .eq 13, 3) := by decide +kernel
theorem dX3_hour_15 : decode cX3_hour 15 = .ok (.sipush 210, 3) := by decide +kernel
theorem dX3_hour_18 : decode cX3_hour 18 = .ok (.iconst 4, 1) := by decide +kernel
theorem dX3_hour_19 : decode cX3_hour 19 = .ok (.iload_n 2, 1) := by decide +kernel
theorem dX3_hour_20 : decode cX3_hour 20 = .ok (.imul, 1) := by decide +kernel
theorem dX3_hour_21 : decode cX3_hour 21 = .ok (.iadd, 1) := by decide +kernel
theorem dX3_hour_22 : decode cX3_hour 22 = .ok (.goto 6, 3) := by decide +kernel
theorem dX3_hour_25 : decode cX3_hour 25 = .ok (.sipush 150, 3) := by decide +kernel
theorem dX3_hour_28 : decode cX3_hour 28 = .ok (.istore_n 3, 1) := by decide +kernel
theorem dX3_hour_29 : decode cX3_hour 29 = .ok (.iload_n 3, 1) := by decide +kernel
theorem dX3_hour_30 : decode cX3_hour 30 = .ok (.aload_n 0, 1) := by decide +kernel
theorem dX3_hour_31 : decode cX3_hour 31 = .ok (.getfield 16, 3) := by decide +kernel
theorem dX3_hour_34 : decode cX3_hour 34 = .ok (.iload_n 1, 1) := by decide +kernel
theorem dX3_hour_35 : decode cX3_hour 35 = .ok (.iaload, 1) := by decide +kernel
theorem dX3_hour_36 : decode cX3_hour 36 = .ok (.isub, 1) := by decide +kernel
theorem dX3_hour_37 : decode cX3_hour 37 = .ok (.iconst 4, 1) := by decide +kernel
theorem dX3_hour_38 : decode cX3_hour 38 = .ok (.idiv, 1) := by decide +kernel
theorem dX3_hour_39 : decode cX3_hour 39 = .ok (.istore 4, 2) := by decide +kernel
theorem dX3_hour_41 : decode cX3_hour 41 = .ok (.aload_n 0, 1) := by decide +kernel
theorem dX3_hour_42 : decode cX3_hour 42 = .ok (.getfield 16, 3) := by decide +kernel
theorem dX3_hour_45 : decode cX3_hour 45 = .ok (.iload_n 1, 1) := by decide +kernel
theorem dX3_hour_46 : decode cX3_hour 46 = .ok (.dup2, 1) := by decide +kernel
theorem dX3_hour_47 : decode cX3_hour 47 = .ok (.iaload, 1) := by decide +kernel
theorem dX3_hour_48 : decode cX3_hour 48 = .ok (.iload 4, 2) := by decide +kernel
theorem dX3_hour_50 : decode cX3_hour 50 = .ok (.iadd, 1) := by decide +kernel
theorem dX3_hour_51 : decode cX3_hour 51 = .ok (.iastore, 1) := by decide +kernel
theorem dX3_hour_52 : decode cX3_hour 52 = .ok (.aload_n 0, 1) := by decide +kernel
theorem dX3_hour_53 : decode cX3_hour 53 = .ok (.getfield 19, 3) := by decide +kernel
theorem dX3_hour_56 : decode cX3_hour 56 = .ok (.iload_n 1, 1) := by decide +kernel
theorem dX3_hour_57 : decode cX3_hour 57 = .ok (.iaload, 1) := by decide +kernel
theorem dX3_hour_58 : decode cX3_hour 58 = .ok (.bipush 25, 2) := by decide +kernel
theorem dX3_hour_60 : decode cX3_hour 60 = .ok (.iload_n 2, 1) := by decide +kernel
theorem dX3_hour_61 : decode cX3_hour 61 = .ok (.imul, 1) := by decide +kernel
theorem dX3_hour_62 : decode cX3_hour 62 = .ok (.iadd, 1) := by decide +kernel
theorem dX3_hour_63 : decode cX3_hour 63 = .ok (.aload_n 0, 1) := by decide +kernel
theorem dX3_hour_64 : decode cX3_hour 64 = .ok (.getfield 22, 3) := by decide +kernel
theorem dX3_hour_67 : decode cX3_hour 67 = .ok (.iload_n 1, 1) := by decide +kernel
theorem dX3_hour_68 : decode cX3_hour 68 = .ok (.baload, 1) := by decide +kernel
theorem dX3_hour_69 : decode cX3_hour 69 = .ok (.ifCond .eq 8, 3) := by decide +kernel
theorem dX3_hour_72 : decode cX3_hour 72 = .ok (.bipush 30, 2) := by decide +kernel
theorem dX3_hour_74 : decode cX3_hour 74 = .ok (.goto 5, 3) := by decide +kernel
theorem dX3_hour_77 : decode cX3_hour 77 = .ok (.bipush 10, 2) := by decide +kernel
theorem dX3_hour_79 : decode cX3_hour 79 = .ok (.isub, 1) := by decide +kernel
theorem dX3_hour_80 : decode cX3_hour 80 = .ok (.istore 5, 2) := by decide +kernel
theorem dX3_hour_82 : decode cX3_hour 82 = .ok (.aload_n 0, 1) := by decide +kernel
theorem dX3_hour_83 : decode cX3_hour 83 = .ok (.getfield 19, 3) := by decide +kernel
theorem dX3_hour_86 : decode cX3_hour 86 = .ok (.iload_n 1, 1) := by decide +kernel
theorem dX3_hour_87 : decode cX3_hour 87 = .ok (.iload 5, 2) := by decide +kernel
theorem dX3_hour_89 : decode cX3_hour 89 = .ok (.sipush 400, 3) := by decide +kernel
theorem dX3_hour_92 : decode cX3_hour 92 = .ok (.if_icmp .ge 9, 3) := by decide +kernel
theorem dX3_hour_95 : decode cX3_hour 95 = .ok (.sipush 400, 3) := by decide +kernel
theorem dX3_hour_98 : decode cX3_hour 98 = .ok (.goto 5, 3) := by decide +kernel
theorem dX3_hour_101 : decode cX3_hour 101 = .ok (.iload 5, 2) := by decide +kernel
theorem dX3_hour_103 : decode cX3_hour 103 = .ok (.iastore, 1) := by decide +kernel
theorem dX3_hour_104 : decode cX3_hour 104 = .ok (.aload_n 0, 1) := by decide +kernel
theorem dX3_hour_105 : decode cX3_hour 105 = .ok (.dup, 1) := by decide +kernel
theorem dX3_hour_106 : decode cX3_hour 106 = .ok (.getfield 138, 3) := by decide +kernel
theorem dX3_hour_109 : decode cX3_hour 109 = .ok (.iload_n 2, 1) := by decide +kernel
theorem dX3_hour_110 : decode cX3_hour 110 = .ok (.aload_n 0, 1) := by decide +kernel
theorem dX3_hour_111 : decode cX3_hour 111 = .ok (.getfield 16, 3) := by decide +kernel
theorem dX3_hour_114 : decode cX3_hour 114 = .ok (.iload_n 1, 1) := by decide +kernel
theorem dX3_hour_115 : decode cX3_hour 115 = .ok (.iaload, 1) := by decide +kernel
theorem dX3_hour_116 : decode cX3_hour 116 = .ok (.sipush 215, 3) := by decide +kernel
theorem dX3_hour_119 : decode cX3_hour 119 = .ok (.invokestatic 87, 3) := by decide +kernel
theorem dX3_hour_122 : decode cX3_hour 122 = .ok (.bipush 10, 2) := by decide +kernel
theorem dX3_hour_124 : decode cX3_hour 124 = .ok (.idiv, 1) := by decide +kernel
theorem dX3_hour_125 : decode cX3_hour 125 = .ok (.aload_n 0, 1) := by decide +kernel
theorem dX3_hour_126 : decode cX3_hour 126 = .ok (.getfield 19, 3) := by decide +kernel
theorem dX3_hour_129 : decode cX3_hour 129 = .ok (.iload_n 1, 1) := by decide +kernel
theorem dX3_hour_130 : decode cX3_hour 130 = .ok (.iaload, 1) := by decide +kernel
theorem dX3_hour_131 : decode cX3_hour 131 = .ok (.sipush 500, 3) := by decide +kernel
theorem dX3_hour_134 : decode cX3_hour 134 = .ok (.if_icmp .le 7, 3) := by decide +kernel
theorem dX3_hour_137 : decode cX3_hour 137 = .ok (.iconst 1, 1) := by decide +kernel
theorem dX3_hour_138 : decode cX3_hour 138 = .ok (.goto 4, 3) := by decide +kernel
theorem dX3_hour_141 : decode cX3_hour 141 = .ok (.iconst 0, 1) := by decide +kernel
theorem dX3_hour_142 : decode cX3_hour 142 = .ok (.iadd, 1) := by decide +kernel
theorem dX3_hour_143 : decode cX3_hour 143 = .ok (.imul, 1) := by decide +kernel
theorem dX3_hour_144 : decode cX3_hour 144 = .ok (.i2l, 1) := by decide +kernel
theorem dX3_hour_145 : decode cX3_hour 145 = .ok (.ladd, 1) := by decide +kernel
theorem dX3_hour_146 : decode cX3_hour 146 = .ok (.putfield 138, 3) := by decide +kernel
theorem dX3_hour_149 : decode cX3_hour 149 = .ok (.aload_n 0, 1) := by decide +kernel
theorem dX3_hour_150 : decode cX3_hour 150 = .ok (.getfield 22, 3) := by decide +kernel
theorem dX3_hour_153 : decode cX3_hour 153 = .ok (.iload_n 1, 1) := by decide +kernel
theorem dX3_hour_154 : decode cX3_hour 154 = .ok (.baload, 1) := by decide +kernel
theorem dX3_hour_155 : decode cX3_hour 155 = .ok (.ifCond .eq 12, 3) := by decide +kernel
theorem dX3_hour_158 : decode cX3_hour 158 = .ok (.iload 4, 2) := by decide +kernel
theorem dX3_hour_160 : decode cX3_hour 160 = .ok (.iconst 0, 1) := by decide +kernel
theorem dX3_hour_161 : decode cX3_hour 161 = .ok (.invokestatic 87, 3) := by decide +kernel
theorem dX3_hour_164 : decode cX3_hour 164 = .ok (.goto 4, 3) := by decide +kernel
theorem dX3_hour_167 : decode cX3_hour 167 = .ok (.iconst 0, 1) := by decide +kernel
theorem dX3_hour_168 : decode cX3_hour 168 = .ok (.ireturn, 1) := by decide +kernel
theorem dX3_pass_0 : decode cX3_pass 0 = .ok (.iload_n 1, 1) := by decide +kernel
theorem dX3_pass_1 : decode cX3_pass 1 = .ok (.iconst 1, 1) := by decide +kernel
theorem dX3_pass_2 : decode cX3_pass 2 = .ok (.bipush 24, 2) := by decide +kernel
theorem dX3_pass_4 : decode cX3_pass 4 = .ok (.invokestatic 57, 3) := by decide +kernel
theorem dX3_pass_7 : decode cX3_pass 7 = .ok (.ifCond .ne 9, 3) := by decide +kernel
theorem dX3_pass_10 : decode cX3_pass 10 = .ok (.aload_n 0, 1) := by decide +kernel
theorem dX3_pass_11 : decode cX3_pass 11 = .ok (.iconst 1, 1) := by decide +kernel
theorem dX3_pass_12 : decode cX3_pass 12 = .ok (.invokevirtual 64, 3) := by decide +kernel
theorem dX3_pass_15 : decode cX3_pass 15 = .ok (.ireturn, 1) := by decide +kernel
theorem dX3_pass_16 : decode cX3_pass 16 = .ok (.iconst 0, 1) := by decide +kernel
theorem dX3_pass_17 : decode cX3_pass 17 = .ok (.istore_n 2, 1) := by decide +kernel
theorem dX3_pass_18 : decode cX3_pass 18 = .ok (.iconst 0, 1) := by decide +kernel
theorem dX3_pass_19 : decode cX3_pass 19 = .ok (.istore_n 3, 1) := by decide +kernel
theorem dX3_pass_20 : decode cX3_pass 20 = .ok (.iload_n 3, 1) := by decide +kernel
theorem dX3_pass_21 : decode cX3_pass 21 = .ok (.iload_n 1, 1) := by decide +kernel
theorem dX3_pass_22 : decode cX3_pass 22 = .ok (.if_icmp .ge 36, 3) := by decide +kernel
theorem dX3_pass_25 : decode cX3_pass 25 = .ok (.iconst 0, 1) := by decide +kernel
theorem dX3_pass_26 : decode cX3_pass 26 = .ok (.istore 4, 2) := by decide +kernel
theorem dX3_pass_28 : decode cX3_pass 28 = .ok (.iload 4, 2) := by decide +kernel
theorem dX3_pass_30 : decode cX3_pass 30 = .ok (.aload_n 0, 1) := by decide +kernel
theorem dX3_pass_31 : decode cX3_pass 31 = .ok (.getfield 54, 3) := by decide +kernel
theorem dX3_pass_34 : decode cX3_pass 34 = .ok (.if_icmp .ge 18, 3) := by decide +kernel
theorem dX3_pass_37 : decode cX3_pass 37 = .ok (.iload_n 2, 1) := by decide +kernel
theorem dX3_pass_38 : decode cX3_pass 38 = .ok (.aload_n 0, 1) := by decide +kernel
theorem dX3_pass_39 : decode cX3_pass 39 = .ok (.iload 4, 2) := by decide +kernel
theorem dX3_pass_41 : decode cX3_pass 41 = .ok (.invokevirtual 141, 3) := by decide +kernel
theorem dX3_pass_44 : decode cX3_pass 44 = .ok (.iadd, 1) := by decide +kernel
theorem dX3_pass_45 : decode cX3_pass 45 = .ok (.istore_n 2, 1) := by decide +kernel
theorem dX3_pass_46 : decode cX3_pass 46 = .ok (.iinc 4 1, 3) := by decide +kernel
theorem dX3_pass_49 : decode cX3_pass 49 = .ok (.goto (-21), 3) := by decide +kernel
theorem dX3_pass_52 : decode cX3_pass 52 = .ok (.iinc 3 1, 3) := by decide +kernel
theorem dX3_pass_55 : decode cX3_pass 55 = .ok (.goto (-35), 3) := by decide +kernel
theorem dX3_pass_58 : decode cX3_pass 58 = .ok (.aload_n 0, 1) := by decide +kernel
theorem dX3_pass_59 : decode cX3_pass 59 = .ok (.dup, 1) := by decide +kernel
theorem dX3_pass_60 : decode cX3_pass 60 = .ok (.getfield 144, 3) := by decide +kernel
theorem dX3_pass_63 : decode cX3_pass 63 = .ok (.iload_n 2, 1) := by decide +kernel
theorem dX3_pass_64 : decode cX3_pass 64 = .ok (.i2l, 1) := by decide +kernel
theorem dX3_pass_65 : decode cX3_pass 65 = .ok (.ladd, 1) := by decide +kernel
theorem dX3_pass_66 : decode cX3_pass 66 = .ok (.putfield 144, 3) := by decide +kernel
theorem dX3_pass_69 : decode cX3_pass 69 = .ok (.aload_n 0, 1) := by decide +kernel
theorem dX3_pass_70 : decode cX3_pass 70 = .ok (.iload_n 2, 1) := by decide +kernel
theorem dX3_pass_71 : decode cX3_pass 71 = .ok (.invokevirtual 68, 3) := by decide +kernel
theorem dX3_pass_74 : decode cX3_pass 74 = .ok (.ireturn, 1) := by decide +kernel
theorem dX3_warmth_0 : decode cX3_warmth 0 = .ok (.aload_n 0, 1) := by decide +kernel
theorem dX3_warmth_1 : decode cX3_warmth 1 = .ok (.iload_n 1, 1) := by decide +kernel
theorem dX3_warmth_2 : decode cX3_warmth 2 = .ok (.invokevirtual 71, 3) := by decide +kernel
theorem dX3_warmth_5 : decode cX3_warmth 5 = .ok (.ifCond .eq 16, 3) := by decide +kernel
theorem dX3_warmth_8 : decode cX3_warmth 8 = .ok (.aload_n 0, 1) := by decide +kernel
theorem dX3_warmth_9 : decode cX3_warmth 9 = .ok (.aload_n 0, 1) := by decide +kernel
theorem dX3_warmth_10 : decode cX3_warmth 10 = .ok (.getfield 16, 3) := by decide +kernel
theorem dX3_warmth_13 : decode cX3_warmth 13 = .ok (.iload_n 1, 1) := by decide +kernel
theorem dX3_warmth_14 : decode cX3_warmth 14 = .ok (.iaload, 1) := by decide +kernel
theorem dX3_warmth_15 : decode cX3_warmth 15 = .ok (.invokevirtual 68, 3) := by decide +kernel
theorem dX3_warmth_18 : decode cX3_warmth 18 = .ok (.goto 8, 3) := by decide +kernel
theorem dX3_warmth_21 : decode cX3_warmth 21 = .ok (.aload_n 0, 1) := by decide +kernel
theorem dX3_warmth_22 : decode cX3_warmth 22 = .ok (.iconst 1, 1) := by decide +kernel
theorem dX3_warmth_23 : decode cX3_warmth 23 = .ok (.invokevirtual 64, 3) := by decide +kernel
theorem dX3_warmth_26 : decode cX3_warmth 26 = .ok (.ireturn, 1) := by decide +kernel
theorem dX3_air_0 : decode cX3_air 0 = .ok (.aload_n 0, 1) := by decide +kernel
theorem dX3_air_1 : decode cX3_air 1 = .ok (.iload_n 1, 1) := by decide +kernel
theorem dX3_air_2 : decode cX3_air 2 = .ok (.invokevirtual 71, 3) := by decide +kernel
theorem dX3_air_5 : decode cX3_air 5 = .ok (.ifCond .eq 16, 3) := by decide +kernel
theorem dX3_air_8 : decode cX3_air 8 = .ok (.aload_n 0, 1) := by decide +kernel
theorem dX3_air_9 : decode cX3_air 9 = .ok (.aload_n 0, 1) := by decide +kernel
theorem dX3_air_10 : decode cX3_air 10 = .ok (.getfield 19, 3) := by decide +kernel
theorem dX3_air_13 : decode cX3_air 13 = .ok (.iload_n 1, 1) := by decide +kernel
theorem dX3_air_14 : decode cX3_air 14 = .ok (.iaload, 1) := by decide +kernel
theorem dX3_air_15 : decode cX3_air 15 = .ok (.invokevirtual 68, 3) := by decide +kernel
theorem dX3_air_18 : decode cX3_air 18 = .ok (.goto 8, 3) := by decide +kernel
theorem dX3_air_21 : decode cX3_air 21 = .ok (.aload_n 0, 1) := by decide +kernel
theorem dX3_air_22 : decode cX3_air 22 = .ok (.iconst 1, 1) := by decide +kernel
theorem dX3_air_23 : decode cX3_air 23 = .ok (.invokevirtual 64, 3) := by decide +kernel
theorem dX3_air_26 : decode cX3_air 26 = .ok (.ireturn, 1) := by decide +kernel
theorem dX3_tellsLong_0 : decode cX3_tellsLong 0 = .ok (.aload_n 0, 1) := by decide +kernel
theorem dX3_tellsLong_1 : decode cX3_tellsLong 1 = .ok (.iconst 0, 1) := by decide +kernel
theorem dX3_tellsLong_2 : decode cX3_tellsLong 2 = .ok (.putfield 50, 3) := by decide +kernel
theorem dX3_tellsLong_5 : decode cX3_tellsLong 5 = .ok (.lload_n 1, 1) := by decide +kernel
theorem dX3_tellsLong_6 : decode cX3_tellsLong 6 = .ok (.lreturn, 1) := by decide +kernel
theorem dX3_energy_0 : decode cX3_energy 0 = .ok (.aload_n 0, 1) := by decide +kernel
theorem dX3_energy_1 : decode cX3_energy 1 = .ok (.aload_n 0, 1) := by decide +kernel
theorem dX3_energy_2 : decode cX3_energy 2 = .ok (.getfield 144, 3) := by decide +kernel
theorem dX3_energy_5 : decode cX3_energy 5 = .ok (.invokevirtual 147, 3) := by decide +kernel
theorem dX3_energy_8 : decode cX3_energy 8 = .ok (.lreturn, 1) := by decide +kernel
theorem dX3_discomfort_0 : decode cX3_discomfort 0 = .ok (.aload_n 0, 1) := by decide +kernel
theorem dX3_discomfort_1 : decode cX3_discomfort 1 = .ok (.aload_n 0, 1) := by decide +kernel
theorem dX3_discomfort_2 : decode cX3_discomfort 2 = .ok (.getfield 138, 3) := by decide +kernel
theorem dX3_discomfort_5 : decode cX3_discomfort 5 = .ok (.invokevirtual 147, 3) := by decide +kernel
theorem dX3_discomfort_8 : decode cX3_discomfort 8 = .ok (.lreturn, 1) := by decide +kernel
theorem dX3_cleaning_0 : decode cX3_cleaning 0 = .ok (.aload_n 0, 1) := by decide +kernel
theorem dX3_cleaning_1 : decode cX3_cleaning 1 = .ok (.aload_n 0, 1) := by decide +kernel
theorem dX3_cleaning_2 : decode cX3_cleaning 2 = .ok (.getfield 101, 3) := by decide +kernel
theorem dX3_cleaning_5 : decode cX3_cleaning 5 = .ok (.invokevirtual 147, 3) := by decide +kernel
theorem dX3_cleaning_8 : decode cX3_cleaning 8 = .ok (.lreturn, 1) := by decide +kernel
theorem dX3_noShows_0 : decode cX3_noShows 0 = .ok (.aload_n 0, 1) := by decide +kernel
theorem dX3_noShows_1 : decode cX3_noShows 1 = .ok (.aload_n 0, 1) := by decide +kernel
theorem dX3_noShows_2 : decode cX3_noShows 2 = .ok (.getfield 121, 3) := by decide +kernel
theorem dX3_noShows_5 : decode cX3_noShows 5 = .ok (.invokevirtual 68, 3) := by decide +kernel
theorem dX3_noShows_8 : decode cX3_noShows 8 = .ok (.ireturn, 1) := by decide +kernel
theorem dX3_meanStanding_0 : decode cX3_meanStanding 0 = .ok (.iconst 0, 1) := by decide +kernel
theorem dX3_meanStanding_1 : decode cX3_meanStanding 1 = .ok (.istore_n 1, 1) := by decide +kernel
theorem dX3_meanStanding_2 : decode cX3_meanStanding 2 = .ok (.iconst 0, 1) := by decide +kernel
theorem dX3_meanStanding_3 : decode cX3_meanStanding 3 = .ok (.istore_n 2, 1) := by decide +kernel
theorem dX3_meanStanding_4 : decode cX3_meanStanding 4 = .ok (.iload_n 2, 1) := by decide +kernel
theorem dX3_meanStanding_5 : decode cX3_meanStanding 5 = .ok (.aload_n 0, 1) := by decide +kernel
theorem dX3_meanStanding_6 : decode cX3_meanStanding 6 = .ok (.getfield 61, 3) := by decide +kernel
theorem dX3_meanStanding_9 : decode cX3_meanStanding 9 = .ok (.if_icmp .ge 18, 3) := by decide +kernel
theorem dX3_meanStanding_12 : decode cX3_meanStanding 12 = .ok (.iload_n 1, 1) := by decide +kernel
theorem dX3_meanStanding_13 : decode cX3_meanStanding 13 = .ok (.aload_n 0, 1) := by decide +kernel
theorem dX3_meanStanding_14 : decode cX3_meanStanding 14 = .ok (.getfield 29, 3) := by decide +kernel
theorem dX3_meanStanding_17 : decode cX3_meanStanding 17 = .ok (.iload_n 2, 1) := by decide +kernel
theorem dX3_meanStanding_18 : decode cX3_meanStanding 18 = .ok (.iaload, 1) := by decide +kernel
theorem dX3_meanStanding_19 : decode cX3_meanStanding 19 = .ok (.iadd, 1) := by decide +kernel
theorem dX3_meanStanding_20 : decode cX3_meanStanding 20 = .ok (.istore_n 1, 1) := by decide +kernel
theorem dX3_meanStanding_21 : decode cX3_meanStanding 21 = .ok (.iinc 2 1, 3) := by decide +kernel
theorem dX3_meanStanding_24 : decode cX3_meanStanding 24 = .ok (.goto (-20), 3) := by decide +kernel
theorem dX3_meanStanding_27 : decode cX3_meanStanding 27 = .ok (.aload_n 0, 1) := by decide +kernel
theorem dX3_meanStanding_28 : decode cX3_meanStanding 28 = .ok (.aload_n 0, 1) := by decide +kernel
theorem dX3_meanStanding_29 : decode cX3_meanStanding 29 = .ok (.getfield 61, 3) := by decide +kernel
theorem dX3_meanStanding_32 : decode cX3_meanStanding 32 = .ok (.ifCond .ne 7, 3) := by decide +kernel
theorem dX3_meanStanding_35 : decode cX3_meanStanding 35 = .ok (.iconst 1, 1) := by decide +kernel
theorem dX3_meanStanding_36 : decode cX3_meanStanding 36 = .ok (.goto 4, 3) := by decide +kernel
theorem dX3_meanStanding_39 : decode cX3_meanStanding 39 = .ok (.iconst 0, 1) := by decide +kernel
theorem dX3_meanStanding_40 : decode cX3_meanStanding 40 = .ok (.putfield 50, 3) := by decide +kernel
theorem dX3_meanStanding_43 : decode cX3_meanStanding 43 = .ok (.aload_n 0, 1) := by decide +kernel
theorem dX3_meanStanding_44 : decode cX3_meanStanding 44 = .ok (.getfield 61, 3) := by decide +kernel
theorem dX3_meanStanding_47 : decode cX3_meanStanding 47 = .ok (.ifCond .ne 7, 3) := by decide +kernel
theorem dX3_meanStanding_50 : decode cX3_meanStanding 50 = .ok (.dconst 0, 1) := by decide +kernel
theorem dX3_meanStanding_51 : decode cX3_meanStanding 51 = .ok (.goto 11, 3) := by decide +kernel
theorem dX3_meanStanding_54 : decode cX3_meanStanding 54 = .ok (.iload_n 1, 1) := by decide +kernel
theorem dX3_meanStanding_55 : decode cX3_meanStanding 55 = .ok (.i2d, 1) := by decide +kernel
theorem dX3_meanStanding_56 : decode cX3_meanStanding 56 = .ok (.aload_n 0, 1) := by decide +kernel
theorem dX3_meanStanding_57 : decode cX3_meanStanding 57 = .ok (.getfield 61, 3) := by decide +kernel
theorem dX3_meanStanding_60 : decode cX3_meanStanding 60 = .ok (.i2d, 1) := by decide +kernel
theorem dX3_meanStanding_61 : decode cX3_meanStanding 61 = .ok (.ddiv, 1) := by decide +kernel
theorem dX3_meanStanding_62 : decode cX3_meanStanding 62 = .ok (.dreturn, 1) := by decide +kernel
theorem dX3_givenShare_0 : decode cX3_givenShare 0 = .ok (.iconst 0, 1) := by decide +kernel
theorem dX3_givenShare_1 : decode cX3_givenShare 1 = .ok (.istore_n 1, 1) := by decide +kernel
theorem dX3_givenShare_2 : decode cX3_givenShare 2 = .ok (.iconst 0, 1) := by decide +kernel
theorem dX3_givenShare_3 : decode cX3_givenShare 3 = .ok (.istore_n 2, 1) := by decide +kernel
theorem dX3_givenShare_4 : decode cX3_givenShare 4 = .ok (.iconst 0, 1) := by decide +kernel
theorem dX3_givenShare_5 : decode cX3_givenShare 5 = .ok (.istore_n 3, 1) := by decide +kernel
theorem dX3_givenShare_6 : decode cX3_givenShare 6 = .ok (.iload_n 3, 1) := by decide +kernel
theorem dX3_givenShare_7 : decode cX3_givenShare 7 = .ok (.aload_n 0, 1) := by decide +kernel
theorem dX3_givenShare_8 : decode cX3_givenShare 8 = .ok (.getfield 54, 3) := by decide +kernel
theorem dX3_givenShare_11 : decode cX3_givenShare 11 = .ok (.if_icmp .ge 40, 3) := by decide +kernel
theorem dX3_givenShare_14 : decode cX3_givenShare 14 = .ok (.iload_n 1, 1) := by decide +kernel
theorem dX3_givenShare_15 : decode cX3_givenShare 15 = .ok (.aload_n 0, 1) := by decide +kernel
theorem dX3_givenShare_16 : decode cX3_givenShare 16 = .ok (.getfield 22, 3) := by decide +kernel
theorem dX3_givenShare_19 : decode cX3_givenShare 19 = .ok (.iload_n 3, 1) := by decide +kernel
theorem dX3_givenShare_20 : decode cX3_givenShare 20 = .ok (.baload, 1) := by decide +kernel
theorem dX3_givenShare_21 : decode cX3_givenShare 21 = .ok (.ifCond .eq 12, 3) := by decide +kernel
theorem dX3_givenShare_24 : decode cX3_givenShare 24 = .ok (.aload_n 0, 1) := by decide +kernel
theorem dX3_givenShare_25 : decode cX3_givenShare 25 = .ok (.getfield 7, 3) := by decide +kernel
theorem dX3_givenShare_28 : decode cX3_givenShare 28 = .ok (.iload_n 3, 1) := by decide +kernel
theorem dX3_givenShare_29 : decode cX3_givenShare 29 = .ok (.iaload, 1) := by decide +kernel
theorem dX3_givenShare_30 : decode cX3_givenShare 30 = .ok (.goto 4, 3) := by decide +kernel
theorem dX3_givenShare_33 : decode cX3_givenShare 33 = .ok (.iconst 0, 1) := by decide +kernel
theorem dX3_givenShare_34 : decode cX3_givenShare 34 = .ok (.iadd, 1) := by decide +kernel
theorem dX3_givenShare_35 : decode cX3_givenShare 35 = .ok (.istore_n 1, 1) := by decide +kernel
theorem dX3_givenShare_36 : decode cX3_givenShare 36 = .ok (.iload_n 2, 1) := by decide +kernel
theorem dX3_givenShare_37 : decode cX3_givenShare 37 = .ok (.aload_n 0, 1) := by decide +kernel
theorem dX3_givenShare_38 : decode cX3_givenShare 38 = .ok (.iload_n 3, 1) := by decide +kernel
theorem dX3_givenShare_39 : decode cX3_givenShare 39 = .ok (.iconst (-1), 1) := by decide +kernel
theorem dX3_givenShare_40 : decode cX3_givenShare 40 = .ok (.invokevirtual 109, 3) := by decide +kernel
theorem dX3_givenShare_43 : decode cX3_givenShare 43 = .ok (.iadd, 1) := by decide +kernel
theorem dX3_givenShare_44 : decode cX3_givenShare 44 = .ok (.istore_n 2, 1) := by decide +kernel
theorem dX3_givenShare_45 : decode cX3_givenShare 45 = .ok (.iinc 3 1, 3) := by decide +kernel
theorem dX3_givenShare_48 : decode cX3_givenShare 48 = .ok (.goto (-42), 3) := by decide +kernel
theorem dX3_givenShare_51 : decode cX3_givenShare 51 = .ok (.aload_n 0, 1) := by decide +kernel
theorem dX3_givenShare_52 : decode cX3_givenShare 52 = .ok (.iload_n 1, 1) := by decide +kernel
theorem dX3_givenShare_53 : decode cX3_givenShare 53 = .ok (.ifCond .ne 7, 3) := by decide +kernel
theorem dX3_givenShare_56 : decode cX3_givenShare 56 = .ok (.iconst 1, 1) := by decide +kernel
theorem dX3_givenShare_57 : decode cX3_givenShare 57 = .ok (.goto 4, 3) := by decide +kernel
theorem dX3_givenShare_60 : decode cX3_givenShare 60 = .ok (.iconst 0, 1) := by decide +kernel
theorem dX3_givenShare_61 : decode cX3_givenShare 61 = .ok (.putfield 50, 3) := by decide +kernel
theorem dX3_givenShare_64 : decode cX3_givenShare 64 = .ok (.iload_n 1, 1) := by decide +kernel
theorem dX3_givenShare_65 : decode cX3_givenShare 65 = .ok (.ifCond .ne 7, 3) := by decide +kernel
theorem dX3_givenShare_68 : decode cX3_givenShare 68 = .ok (.fconst 0, 1) := by decide +kernel
theorem dX3_givenShare_69 : decode cX3_givenShare 69 = .ok (.goto 8, 3) := by decide +kernel
theorem dX3_givenShare_72 : decode cX3_givenShare 72 = .ok (.iload_n 2, 1) := by decide +kernel
theorem dX3_givenShare_73 : decode cX3_givenShare 73 = .ok (.i2f, 1) := by decide +kernel
theorem dX3_givenShare_74 : decode cX3_givenShare 74 = .ok (.iload_n 1, 1) := by decide +kernel
theorem dX3_givenShare_75 : decode cX3_givenShare 75 = .ok (.i2f, 1) := by decide +kernel
theorem dX3_givenShare_76 : decode cX3_givenShare 76 = .ok (.fdiv, 1) := by decide +kernel
theorem dX3_givenShare_77 : decode cX3_givenShare 77 = .ok (.freturn, 1) := by decide +kernel
theorem dX3_isSound_0 : decode cX3_isSound 0 = .ok (.aload_n 0, 1) := by decide +kernel
theorem dX3_isSound_1 : decode cX3_isSound 1 = .ok (.iconst 0, 1) := by decide +kernel
theorem dX3_isSound_2 : decode cX3_isSound 2 = .ok (.iconst 1, 1) := by decide +kernel
theorem dX3_isSound_3 : decode cX3_isSound 3 = .ok (.invokevirtual 131, 3) := by decide +kernel
theorem dX3_isSound_6 : decode cX3_isSound 6 = .ok (.ireturn, 1) := by decide +kernel
theorem dJx00060_init_a7421_0 : decode cJx00060_init_a7421 0 = .ok (.aload_n 0, 1) := by decide +kernel
theorem dJx00060_init_a7421_1 : decode cJx00060_init_a7421 1 = .ok (.aload_n 1, 1) := by decide +kernel
theorem dJx00060_init_a7421_2 : decode cJx00060_init_a7421 2 = .ok (.invokespecial 7, 3) := by decide +kernel
theorem dJx00060_init_a7421_5 : decode cJx00060_init_a7421 5 = .ok (.return_, 1) := by decide +kernel
theorem dJ9_abs_0f7a4_0 : decode cJ9_abs_0f7a4 0 = .ok (.iload_n 0, 1) := by decide +kernel
theorem dJ9_abs_0f7a4_1 : decode cJ9_abs_0f7a4 1 = .ok (.ifCond .ge 8, 3) := by decide +kernel
theorem dJ9_abs_0f7a4_4 : decode cJ9_abs_0f7a4 4 = .ok (.iload_n 0, 1) := by decide +kernel
theorem dJ9_abs_0f7a4_5 : decode cJ9_abs_0f7a4 5 = .ok (.ineg, 1) := by decide +kernel
theorem dJ9_abs_0f7a4_6 : decode cJ9_abs_0f7a4 6 = .ok (.goto 4, 3) := by decide +kernel
theorem dJ9_abs_0f7a4_9 : decode cJ9_abs_0f7a4 9 = .ok (.iload_n 0, 1) := by decide +kernel
theorem dJ9_abs_0f7a4_10 : decode cJ9_abs_0f7a4 10 = .ok (.ireturn, 1) := by decide +kernel
theorem dJ9_max_7cf53_0 : decode cJ9_max_7cf53 0 = .ok (.iload_n 0, 1) := by decide +kernel
theorem dJ9_max_7cf53_1 : decode cJ9_max_7cf53 1 = .ok (.iload_n 1, 1) := by decide +kernel
theorem dJ9_max_7cf53_2 : decode cJ9_max_7cf53 2 = .ok (.if_icmp .lt 7, 3) := by decide +kernel
theorem dJ9_max_7cf53_5 : decode cJ9_max_7cf53 5 = .ok (.iload_n 0, 1) := by decide +kernel
theorem dJ9_max_7cf53_6 : decode cJ9_max_7cf53 6 = .ok (.goto 4, 3) := by decide +kernel
theorem dJ9_max_7cf53_9 : decode cJ9_max_7cf53 9 = .ok (.iload_n 1, 1) := by decide +kernel
theorem dJ9_max_7cf53_10 : decode cJ9_max_7cf53 10 = .ok (.ireturn, 1) := by decide +kernel
theorem dJ9_min_7cf53_0 : decode cJ9_min_7cf53 0 = .ok (.iload_n 0, 1) := by decide +kernel
theorem dJ9_min_7cf53_1 : decode cJ9_min_7cf53 1 = .ok (.iload_n 1, 1) := by decide +kernel
theorem dJ9_min_7cf53_2 : decode cJ9_min_7cf53 2 = .ok (.if_icmp .gt 7, 3) := by decide +kernel
theorem dJ9_min_7cf53_5 : decode cJ9_min_7cf53 5 = .ok (.iload_n 0, 1) := by decide +kernel
theorem dJ9_min_7cf53_6 : decode cJ9_min_7cf53 6 = .ok (.goto 4, 3) := by decide +kernel
theorem dJ9_min_7cf53_9 : decode cJ9_min_7cf53 9 = .ok (.iload_n 1, 1) := by decide +kernel
theorem dJ9_min_7cf53_10 : decode cJ9_min_7cf53 10 = .ok (.ireturn, 1) := by decide +kernel
theorem dJxa1e45_init_da8c8_0 : decode cJxa1e45_init_da8c8 0 = .ok (.aload_n 0, 1) := by decide +kernel
theorem dJxa1e45_init_da8c8_1 : decode cJxa1e45_init_da8c8 1 = .ok (.invokespecial 1, 3) := by decide +kernel
theorem dJxa1e45_init_da8c8_4 : decode cJxa1e45_init_da8c8 4 = .ok (.return_, 1) := by decide +kernel
theorem dJxc12de_init_da8c8_0 : decode cJxc12de_init_da8c8 0 = .ok (.aload_n 0, 1) := by decide +kernel
theorem dJxc12de_init_da8c8_1 : decode cJxc12de_init_da8c8 1 = .ok (.invokespecial 1, 3) := by decide +kernel
theorem dJxc12de_init_da8c8_4 : decode cJxc12de_init_da8c8 4 = .ok (.aload_n 0, 1) := by decide +kernel
theorem dJxc12de_init_da8c8_5 : decode cJxc12de_init_da8c8 5 = .ok (.iconst 0, 1) := by decide +kernel
theorem dJxc12de_init_da8c8_6 : decode cJxc12de_init_da8c8 6 = .ok (.putfield 7, 3) := by decide +kernel
theorem dJxc12de_init_da8c8_9 : decode cJxc12de_init_da8c8 9 = .ok (.return_, 1) := by decide +kernel
theorem dJx4a65c_init_da8c8_0 : decode cJx4a65c_init_da8c8 0 = .ok (.aload_n 0, 1) := by decide +kernel
theorem dJx4a65c_init_da8c8_1 : decode cJx4a65c_init_da8c8 1 = .ok (.invokespecial 1, 3) := by decide +kernel
theorem dJx4a65c_init_da8c8_4 : decode cJx4a65c_init_da8c8 4 = .ok (.aload_n 0, 1) := by decide +kernel
theorem dJx4a65c_init_da8c8_5 : decode cJx4a65c_init_da8c8 5 = .ok (.getstatic 39, 3) := by decide +kernel
theorem dJx4a65c_init_da8c8_8 : decode cJx4a65c_init_da8c8 8 = .ok (.putfield 9, 3) := by decide +kernel
theorem dJx4a65c_init_da8c8_11 : decode cJx4a65c_init_da8c8 11 = .ok (.return_, 1) := by decide +kernel
theorem dJx4a65c_grow_92f84_0 : decode cJx4a65c_grow_92f84 0 = .ok (.aload_n 0, 1) := by decide +kernel
theorem dJx4a65c_grow_92f84_1 : decode cJx4a65c_grow_92f84 1 = .ok (.getfield 9, 3) := by decide +kernel
theorem dJx4a65c_grow_92f84_4 : decode cJx4a65c_grow_92f84 4 = .ok (.arraylength, 1) := by decide +kernel
theorem dJx4a65c_grow_92f84_5 : decode cJx4a65c_grow_92f84 5 = .ok (.istore_n 2, 1) := by decide +kernel
theorem dJx4a65c_grow_92f84_6 : decode cJx4a65c_grow_92f84 6 = .ok (.iload_n 2, 1) := by decide +kernel
theorem dJx4a65c_grow_92f84_7 : decode cJx4a65c_grow_92f84 7 = .ok (.ifCond .gt 13, 3) := by decide +kernel
theorem dJx4a65c_grow_92f84_10 : decode cJx4a65c_grow_92f84 10 = .ok (.aload_n 0, 1) := by decide +kernel
theorem dJx4a65c_grow_92f84_11 : decode cJx4a65c_grow_92f84 11 = .ok (.getfield 9, 3) := by decide +kernel
theorem dJx4a65c_grow_92f84_14 : decode cJx4a65c_grow_92f84 14 = .ok (.getstatic 39, 3) := by decide +kernel
theorem dJx4a65c_grow_92f84_17 : decode cJx4a65c_grow_92f84 17 = .ok (.if_acmp .eq 28, 3) := by decide +kernel
theorem dJx4a65c_grow_92f84_20 : decode cJx4a65c_grow_92f84 20 = .ok (.iload_n 2, 1) := by decide +kernel
theorem dJx4a65c_grow_92f84_21 : decode cJx4a65c_grow_92f84 21 = .ok (.iload_n 1, 1) := by decide +kernel
theorem dJx4a65c_grow_92f84_22 : decode cJx4a65c_grow_92f84 22 = .ok (.iload_n 2, 1) := by decide +kernel
theorem dJx4a65c_grow_92f84_23 : decode cJx4a65c_grow_92f84 23 = .ok (.isub, 1) := by decide +kernel
theorem dJx4a65c_grow_92f84_24 : decode cJx4a65c_grow_92f84 24 = .ok (.iload_n 2, 1) := by decide +kernel
theorem dJx4a65c_grow_92f84_25 : decode cJx4a65c_grow_92f84 25 = .ok (.iconst 1, 1) := by decide +kernel
theorem dJx4a65c_grow_92f84_26 : decode cJx4a65c_grow_92f84 26 = .ok (.ishr, 1) := by decide +kernel
theorem dJx4a65c_grow_92f84_27 : decode cJx4a65c_grow_92f84 27 = .ok (.invokestatic 73, 3) := by decide +kernel
theorem dJx4a65c_grow_92f84_30 : decode cJx4a65c_grow_92f84 30 = .ok (.istore_n 3, 1) := by decide +kernel
theorem dJx4a65c_grow_92f84_31 : decode cJx4a65c_grow_92f84 31 = .ok (.aload_n 0, 1) := by decide +kernel
theorem dJx4a65c_grow_92f84_32 : decode cJx4a65c_grow_92f84 32 = .ok (.aload_n 0, 1) := by decide +kernel
theorem dJx4a65c_grow_92f84_33 : decode cJx4a65c_grow_92f84 33 = .ok (.getfield 9, 3) := by decide +kernel
theorem dJx4a65c_grow_92f84_36 : decode cJx4a65c_grow_92f84 36 = .ok (.iload_n 3, 1) := by decide +kernel
theorem dJx4a65c_grow_92f84_37 : decode cJx4a65c_grow_92f84 37 = .ok (.invokestatic 66, 3) := by decide +kernel
theorem dJx4a65c_grow_92f84_40 : decode cJx4a65c_grow_92f84 40 = .ok (.dup_x1, 1) := by decide +kernel
theorem dJx4a65c_grow_92f84_41 : decode cJx4a65c_grow_92f84 41 = .ok (.putfield 9, 3) := by decide +kernel
theorem dJx4a65c_grow_92f84_44 : decode cJx4a65c_grow_92f84 44 = .ok (.areturn, 1) := by decide +kernel
theorem dJx4a65c_grow_92f84_45 : decode cJx4a65c_grow_92f84 45 = .ok (.aload_n 0, 1) := by decide +kernel
theorem dJx4a65c_grow_92f84_46 : decode cJx4a65c_grow_92f84 46 = .ok (.bipush 10, 2) := by decide +kernel
theorem dJx4a65c_grow_92f84_48 : decode cJx4a65c_grow_92f84 48 = .ok (.iload_n 1, 1) := by decide +kernel
theorem dJx4a65c_grow_92f84_49 : decode cJx4a65c_grow_92f84 49 = .ok (.invokestatic 79, 3) := by decide +kernel
theorem dJx4a65c_grow_92f84_52 : decode cJx4a65c_grow_92f84 52 = .ok (.anewarray 7, 3) := by decide +kernel
theorem dJx4a65c_grow_92f84_55 : decode cJx4a65c_grow_92f84 55 = .ok (.dup_x1, 1) := by decide +kernel
theorem dJx4a65c_grow_92f84_56 : decode cJx4a65c_grow_92f84 56 = .ok (.putfield 9, 3) := by decide +kernel
theorem dJx4a65c_grow_92f84_59 : decode cJx4a65c_grow_92f84 59 = .ok (.areturn, 1) := by decide +kernel
theorem dJx4a65c_grow_d5877_0 : decode cJx4a65c_grow_d5877 0 = .ok (.aload_n 0, 1) := by decide +kernel
theorem dJx4a65c_grow_d5877_1 : decode cJx4a65c_grow_d5877 1 = .ok (.aload_n 0, 1) := by decide +kernel
theorem dJx4a65c_grow_d5877_2 : decode cJx4a65c_grow_d5877 2 = .ok (.getfield 48, 3) := by decide +kernel
theorem dJx4a65c_grow_d5877_5 : decode cJx4a65c_grow_d5877 5 = .ok (.iconst 1, 1) := by decide +kernel
theorem dJx4a65c_grow_d5877_6 : decode cJx4a65c_grow_d5877 6 = .ok (.iadd, 1) := by decide +kernel
theorem dJx4a65c_grow_d5877_7 : decode cJx4a65c_grow_d5877 7 = .ok (.invokevirtual 69, 3) := by decide +kernel
theorem dJx4a65c_grow_d5877_10 : decode cJx4a65c_grow_d5877 10 = .ok (.areturn, 1) := by decide +kernel
theorem dJx4a65c_size_8abf5_0 : decode cJx4a65c_size_8abf5 0 = .ok (.aload_n 0, 1) := by decide +kernel
theorem dJx4a65c_size_8abf5_1 : decode cJx4a65c_size_8abf5 1 = .ok (.getfield 48, 3) := by decide +kernel
theorem dJx4a65c_size_8abf5_4 : decode cJx4a65c_size_8abf5 4 = .ok (.ireturn, 1) := by decide +kernel
theorem dJx4a65c_isEmpty_aae02_0 : decode cJx4a65c_isEmpty_aae02 0 = .ok (.aload_n 0, 1) := by decide +kernel
theorem dJx4a65c_isEmpty_aae02_1 : decode cJx4a65c_isEmpty_aae02 1 = .ok (.getfield 48, 3) := by decide +kernel
theorem dJx4a65c_isEmpty_aae02_4 : decode cJx4a65c_isEmpty_aae02 4 = .ok (.ifCond .ne 7, 3) := by decide +kernel
theorem dJx4a65c_isEmpty_aae02_7 : decode cJx4a65c_isEmpty_aae02 7 = .ok (.iconst 1, 1) := by decide +kernel
theorem dJx4a65c_isEmpty_aae02_8 : decode cJx4a65c_isEmpty_aae02 8 = .ok (.goto 4, 3) := by decide +kernel
theorem dJx4a65c_isEmpty_aae02_11 : decode cJx4a65c_isEmpty_aae02 11 = .ok (.iconst 0, 1) := by decide +kernel
theorem dJx4a65c_isEmpty_aae02_12 : decode cJx4a65c_isEmpty_aae02 12 = .ok (.ireturn, 1) := by decide +kernel
theorem dJx4a65c_elementData_915e3_0 : decode cJx4a65c_elementData_915e3 0 = .ok (.aload_n 0, 1) := by decide +kernel
theorem dJx4a65c_elementData_915e3_1 : decode cJx4a65c_elementData_915e3 1 = .ok (.getfield 9, 3) := by decide +kernel
theorem dJx4a65c_elementData_915e3_4 : decode cJx4a65c_elementData_915e3 4 = .ok (.iload_n 1, 1) := by decide +kernel
theorem dJx4a65c_elementData_915e3_5 : decode cJx4a65c_elementData_915e3 5 = .ok (.aaload, 1) := by decide +kernel
theorem dJx4a65c_elementData_915e3_6 : decode cJx4a65c_elementData_915e3 6 = .ok (.areturn, 1) := by decide +kernel
theorem dJx4a65c_get_915e3_0 : decode cJx4a65c_get_915e3 0 = .ok (.iload_n 1, 1) := by decide +kernel
theorem dJx4a65c_get_915e3_1 : decode cJx4a65c_get_915e3 1 = .ok (.aload_n 0, 1) := by decide +kernel
theorem dJx4a65c_get_915e3_2 : decode cJx4a65c_get_915e3 2 = .ok (.getfield 48, 3) := by decide +kernel
theorem dJx4a65c_get_915e3_5 : decode cJx4a65c_get_915e3 5 = .ok (.invokestatic 118, 3) := by decide +kernel
theorem dJx4a65c_get_915e3_8 : decode cJx4a65c_get_915e3 8 = .ok (.pop, 1) := by decide +kernel
theorem dJx4a65c_get_915e3_9 : decode cJx4a65c_get_915e3 9 = .ok (.aload_n 0, 1) := by decide +kernel
theorem dJx4a65c_get_915e3_10 : decode cJx4a65c_get_915e3 10 = .ok (.iload_n 1, 1) := by decide +kernel
theorem dJx4a65c_get_915e3_11 : decode cJx4a65c_get_915e3 11 = .ok (.invokevirtual 123, 3) := by decide +kernel
theorem dJx4a65c_get_915e3_14 : decode cJx4a65c_get_915e3 14 = .ok (.areturn, 1) := by decide +kernel
theorem dJx4a65c_add_72be8_0 : decode cJx4a65c_add_72be8 0 = .ok (.iload_n 3, 1) := by decide +kernel
theorem dJx4a65c_add_72be8_1 : decode cJx4a65c_add_72be8 1 = .ok (.aload_n 2, 1) := by decide +kernel
theorem dJx4a65c_add_72be8_2 : decode cJx4a65c_add_72be8 2 = .ok (.arraylength, 1) := by decide +kernel
theorem dJx4a65c_add_72be8_3 : decode cJx4a65c_add_72be8 3 = .ok (.if_icmp .ne 8, 3) := by decide +kernel
theorem dJx4a65c_add_72be8_6 : decode cJx4a65c_add_72be8 6 = .ok (.aload_n 0, 1) := by decide +kernel
theorem dJx4a65c_add_72be8_7 : decode cJx4a65c_add_72be8 7 = .ok (.invokevirtual 129, 3) := by decide +kernel
theorem dJx4a65c_add_72be8_10 : decode cJx4a65c_add_72be8 10 = .ok (.astore_n 2, 1) := by decide +kernel
theorem dJx4a65c_add_72be8_11 : decode cJx4a65c_add_72be8 11 = .ok (.aload_n 2, 1) := by decide +kernel
theorem dJx4a65c_add_72be8_12 : decode cJx4a65c_add_72be8 12 = .ok (.iload_n 3, 1) := by decide +kernel
theorem dJx4a65c_add_72be8_13 : decode cJx4a65c_add_72be8 13 = .ok (.aload_n 1, 1) := by decide +kernel
theorem dJx4a65c_add_72be8_14 : decode cJx4a65c_add_72be8 14 = .ok (.aastore, 1) := by decide +kernel
theorem dJx4a65c_add_72be8_15 : decode cJx4a65c_add_72be8 15 = .ok (.aload_n 0, 1) := by decide +kernel
theorem dJx4a65c_add_72be8_16 : decode cJx4a65c_add_72be8 16 = .ok (.iload_n 3, 1) := by decide +kernel
theorem dJx4a65c_add_72be8_17 : decode cJx4a65c_add_72be8 17 = .ok (.iconst 1, 1) := by decide +kernel
theorem dJx4a65c_add_72be8_18 : decode cJx4a65c_add_72be8 18 = .ok (.iadd, 1) := by decide +kernel
theorem dJx4a65c_add_72be8_19 : decode cJx4a65c_add_72be8 19 = .ok (.putfield 48, 3) := by decide +kernel
theorem dJx4a65c_add_72be8_22 : decode cJx4a65c_add_72be8 22 = .ok (.return_, 1) := by decide +kernel
theorem dJx4a65c_add_9ea2d_0 : decode cJx4a65c_add_9ea2d 0 = .ok (.aload_n 0, 1) := by decide +kernel
theorem dJx4a65c_add_9ea2d_1 : decode cJx4a65c_add_9ea2d 1 = .ok (.dup, 1) := by decide +kernel
theorem dJx4a65c_add_9ea2d_2 : decode cJx4a65c_add_9ea2d 2 = .ok (.getfield 63, 3) := by decide +kernel
theorem dJx4a65c_add_9ea2d_5 : decode cJx4a65c_add_9ea2d 5 = .ok (.iconst 1, 1) := by decide +kernel
theorem dJx4a65c_add_9ea2d_6 : decode cJx4a65c_add_9ea2d 6 = .ok (.iadd, 1) := by decide +kernel
theorem dJx4a65c_add_9ea2d_7 : decode cJx4a65c_add_9ea2d 7 = .ok (.putfield 63, 3) := by decide +kernel
theorem dJx4a65c_add_9ea2d_10 : decode cJx4a65c_add_9ea2d 10 = .ok (.aload_n 0, 1) := by decide +kernel
theorem dJx4a65c_add_9ea2d_11 : decode cJx4a65c_add_9ea2d 11 = .ok (.aload_n 1, 1) := by decide +kernel
theorem dJx4a65c_add_9ea2d_12 : decode cJx4a65c_add_9ea2d 12 = .ok (.aload_n 0, 1) := by decide +kernel
theorem dJx4a65c_add_9ea2d_13 : decode cJx4a65c_add_9ea2d 13 = .ok (.getfield 9, 3) := by decide +kernel
theorem dJx4a65c_add_9ea2d_16 : decode cJx4a65c_add_9ea2d 16 = .ok (.aload_n 0, 1) := by decide +kernel
theorem dJx4a65c_add_9ea2d_17 : decode cJx4a65c_add_9ea2d 17 = .ok (.getfield 48, 3) := by decide +kernel
theorem dJx4a65c_add_9ea2d_20 : decode cJx4a65c_add_9ea2d 20 = .ok (.invokevirtual 131, 3) := by decide +kernel
theorem dJx4a65c_add_9ea2d_23 : decode cJx4a65c_add_9ea2d 23 = .ok (.iconst 1, 1) := by decide +kernel
theorem dJx4a65c_add_9ea2d_24 : decode cJx4a65c_add_9ea2d 24 = .ok (.ireturn, 1) := by decide +kernel
theorem dJx4a65c_remove_915e3_0 : decode cJx4a65c_remove_915e3 0 = .ok (.iload_n 1, 1) := by decide +kernel
theorem dJx4a65c_remove_915e3_1 : decode cJx4a65c_remove_915e3 1 = .ok (.aload_n 0, 1) := by decide +kernel
theorem dJx4a65c_remove_915e3_2 : decode cJx4a65c_remove_915e3 2 = .ok (.getfield 48, 3) := by decide +kernel
theorem dJx4a65c_remove_915e3_5 : decode cJx4a65c_remove_915e3 5 = .ok (.invokestatic 118, 3) := by decide +kernel
theorem dJx4a65c_remove_915e3_8 : decode cJx4a65c_remove_915e3 8 = .ok (.pop, 1) := by decide +kernel
theorem dJx4a65c_remove_915e3_9 : decode cJx4a65c_remove_915e3 9 = .ok (.aload_n 0, 1) := by decide +kernel
theorem dJx4a65c_remove_915e3_10 : decode cJx4a65c_remove_915e3 10 = .ok (.getfield 9, 3) := by decide +kernel
theorem dJx4a65c_remove_915e3_13 : decode cJx4a65c_remove_915e3 13 = .ok (.astore_n 2, 1) := by decide +kernel
theorem dJx4a65c_remove_915e3_14 : decode cJx4a65c_remove_915e3 14 = .ok (.aload_n 2, 1) := by decide +kernel
theorem dJx4a65c_remove_915e3_15 : decode cJx4a65c_remove_915e3 15 = .ok (.iload_n 1, 1) := by decide +kernel
theorem dJx4a65c_remove_915e3_16 : decode cJx4a65c_remove_915e3 16 = .ok (.aaload, 1) := by decide +kernel
theorem dJx4a65c_remove_915e3_17 : decode cJx4a65c_remove_915e3 17 = .ok (.astore_n 3, 1) := by decide +kernel
theorem dJx4a65c_remove_915e3_18 : decode cJx4a65c_remove_915e3 18 = .ok (.aload_n 0, 1) := by decide +kernel
theorem dJx4a65c_remove_915e3_19 : decode cJx4a65c_remove_915e3 19 = .ok (.aload_n 2, 1) := by decide +kernel
theorem dJx4a65c_remove_915e3_20 : decode cJx4a65c_remove_915e3 20 = .ok (.iload_n 1, 1) := by decide +kernel
theorem dJx4a65c_remove_915e3_21 : decode cJx4a65c_remove_915e3 21 = .ok (.invokevirtual 144, 3) := by decide +kernel
theorem dJx4a65c_remove_915e3_24 : decode cJx4a65c_remove_915e3 24 = .ok (.aload_n 3, 1) := by decide +kernel
theorem dJx4a65c_remove_915e3_25 : decode cJx4a65c_remove_915e3 25 = .ok (.areturn, 1) := by decide +kernel
theorem dJx4a65c_fastRemove_b59b0_0 : decode cJx4a65c_fastRemove_b59b0 0 = .ok (.aload_n 0, 1) := by decide +kernel
theorem dJx4a65c_fastRemove_b59b0_1 : decode cJx4a65c_fastRemove_b59b0 1 = .ok (.dup, 1) := by decide +kernel
theorem dJx4a65c_fastRemove_b59b0_2 : decode cJx4a65c_fastRemove_b59b0 2 = .ok (.getfield 63, 3) := by decide +kernel
theorem dJx4a65c_fastRemove_b59b0_5 : decode cJx4a65c_fastRemove_b59b0 5 = .ok (.iconst 1, 1) := by decide +kernel
theorem dJx4a65c_fastRemove_b59b0_6 : decode cJx4a65c_fastRemove_b59b0 6 = .ok (.iadd, 1) := by decide +kernel
theorem dJx4a65c_fastRemove_b59b0_7 : decode cJx4a65c_fastRemove_b59b0 7 = .ok (.putfield 63, 3) := by decide +kernel
theorem dJx4a65c_fastRemove_b59b0_10 : decode cJx4a65c_fastRemove_b59b0 10 = .ok (.aload_n 0, 1) := by decide +kernel
theorem dJx4a65c_fastRemove_b59b0_11 : decode cJx4a65c_fastRemove_b59b0 11 = .ok (.getfield 48, 3) := by decide +kernel
theorem dJx4a65c_fastRemove_b59b0_14 : decode cJx4a65c_fastRemove_b59b0 14 = .ok (.iconst 1, 1) := by decide +kernel
theorem dJx4a65c_fastRemove_b59b0_15 : decode cJx4a65c_fastRemove_b59b0 15 = .ok (.isub, 1) := by decide +kernel
theorem dJx4a65c_fastRemove_b59b0_16 : decode cJx4a65c_fastRemove_b59b0 16 = .ok (.dup, 1) := by decide +kernel
theorem dJx4a65c_fastRemove_b59b0_17 : decode cJx4a65c_fastRemove_b59b0 17 = .ok (.istore_n 3, 1) := by decide +kernel
theorem dJx4a65c_fastRemove_b59b0_18 : decode cJx4a65c_fastRemove_b59b0 18 = .ok (.iload_n 2, 1) := by decide +kernel
theorem dJx4a65c_fastRemove_b59b0_19 : decode cJx4a65c_fastRemove_b59b0 19 = .ok (.if_icmp .le 15, 3) := by decide +kernel
theorem dJx4a65c_fastRemove_b59b0_22 : decode cJx4a65c_fastRemove_b59b0 22 = .ok (.aload_n 1, 1) := by decide +kernel
theorem dJx4a65c_fastRemove_b59b0_23 : decode cJx4a65c_fastRemove_b59b0 23 = .ok (.iload_n 2, 1) := by decide +kernel
theorem dJx4a65c_fastRemove_b59b0_24 : decode cJx4a65c_fastRemove_b59b0 24 = .ok (.iconst 1, 1) := by decide +kernel
theorem dJx4a65c_fastRemove_b59b0_25 : decode cJx4a65c_fastRemove_b59b0 25 = .ok (.iadd, 1) := by decide +kernel
theorem dJx4a65c_fastRemove_b59b0_26 : decode cJx4a65c_fastRemove_b59b0 26 = .ok (.aload_n 1, 1) := by decide +kernel
theorem dJx4a65c_fastRemove_b59b0_27 : decode cJx4a65c_fastRemove_b59b0 27 = .ok (.iload_n 2, 1) := by decide +kernel
theorem dJx4a65c_fastRemove_b59b0_28 : decode cJx4a65c_fastRemove_b59b0 28 = .ok (.iload_n 3, 1) := by decide +kernel
theorem dJx4a65c_fastRemove_b59b0_29 : decode cJx4a65c_fastRemove_b59b0 29 = .ok (.iload_n 2, 1) := by decide +kernel
theorem dJx4a65c_fastRemove_b59b0_30 : decode cJx4a65c_fastRemove_b59b0 30 = .ok (.isub, 1) := by decide +kernel
theorem dJx4a65c_fastRemove_b59b0_31 : decode cJx4a65c_fastRemove_b59b0 31 = .ok (.invokestatic 112, 3) := by decide +kernel
theorem dJx4a65c_fastRemove_b59b0_34 : decode cJx4a65c_fastRemove_b59b0 34 = .ok (.aload_n 1, 1) := by decide +kernel
theorem dJx4a65c_fastRemove_b59b0_35 : decode cJx4a65c_fastRemove_b59b0 35 = .ok (.aload_n 0, 1) := by decide +kernel
theorem dJx4a65c_fastRemove_b59b0_36 : decode cJx4a65c_fastRemove_b59b0 36 = .ok (.iload_n 3, 1) := by decide +kernel
theorem dJx4a65c_fastRemove_b59b0_37 : decode cJx4a65c_fastRemove_b59b0 37 = .ok (.dup_x1, 1) := by decide +kernel
theorem dJx4a65c_fastRemove_b59b0_38 : decode cJx4a65c_fastRemove_b59b0 38 = .ok (.putfield 48, 3) := by decide +kernel
theorem dJx4a65c_fastRemove_b59b0_41 : decode cJx4a65c_fastRemove_b59b0 41 = .ok (.aconst_null, 1) := by decide +kernel
theorem dJx4a65c_fastRemove_b59b0_42 : decode cJx4a65c_fastRemove_b59b0 42 = .ok (.aastore, 1) := by decide +kernel
theorem dJx4a65c_fastRemove_b59b0_43 : decode cJx4a65c_fastRemove_b59b0 43 = .ok (.return_, 1) := by decide +kernel
theorem dJx4a65c_clear_da8c8_0 : decode cJx4a65c_clear_da8c8 0 = .ok (.aload_n 0, 1) := by decide +kernel
theorem dJx4a65c_clear_da8c8_1 : decode cJx4a65c_clear_da8c8 1 = .ok (.dup, 1) := by decide +kernel
theorem dJx4a65c_clear_da8c8_2 : decode cJx4a65c_clear_da8c8 2 = .ok (.getfield 63, 3) := by decide +kernel
theorem dJx4a65c_clear_da8c8_5 : decode cJx4a65c_clear_da8c8 5 = .ok (.iconst 1, 1) := by decide +kernel
theorem dJx4a65c_clear_da8c8_6 : decode cJx4a65c_clear_da8c8 6 = .ok (.iadd, 1) := by decide +kernel
theorem dJx4a65c_clear_da8c8_7 : decode cJx4a65c_clear_da8c8 7 = .ok (.putfield 63, 3) := by decide +kernel
theorem dJx4a65c_clear_da8c8_10 : decode cJx4a65c_clear_da8c8 10 = .ok (.aload_n 0, 1) := by decide +kernel
theorem dJx4a65c_clear_da8c8_11 : decode cJx4a65c_clear_da8c8 11 = .ok (.getfield 9, 3) := by decide +kernel
theorem dJx4a65c_clear_da8c8_14 : decode cJx4a65c_clear_da8c8 14 = .ok (.astore_n 1, 1) := by decide +kernel
theorem dJx4a65c_clear_da8c8_15 : decode cJx4a65c_clear_da8c8 15 = .ok (.aload_n 0, 1) := by decide +kernel
theorem dJx4a65c_clear_da8c8_16 : decode cJx4a65c_clear_da8c8 16 = .ok (.getfield 48, 3) := by decide +kernel
theorem dJx4a65c_clear_da8c8_19 : decode cJx4a65c_clear_da8c8 19 = .ok (.istore_n 2, 1) := by decide +kernel
theorem dJx4a65c_clear_da8c8_20 : decode cJx4a65c_clear_da8c8 20 = .ok (.aload_n 0, 1) := by decide +kernel
theorem dJx4a65c_clear_da8c8_21 : decode cJx4a65c_clear_da8c8 21 = .ok (.iconst 0, 1) := by decide +kernel
theorem dJx4a65c_clear_da8c8_22 : decode cJx4a65c_clear_da8c8 22 = .ok (.dup_x1, 1) := by decide +kernel
theorem dJx4a65c_clear_da8c8_23 : decode cJx4a65c_clear_da8c8 23 = .ok (.putfield 48, 3) := by decide +kernel
theorem dJx4a65c_clear_da8c8_26 : decode cJx4a65c_clear_da8c8 26 = .ok (.istore_n 3, 1) := by decide +kernel
theorem dJx4a65c_clear_da8c8_27 : decode cJx4a65c_clear_da8c8 27 = .ok (.iload_n 3, 1) := by decide +kernel
theorem dJx4a65c_clear_da8c8_28 : decode cJx4a65c_clear_da8c8 28 = .ok (.iload_n 2, 1) := by decide +kernel
theorem dJx4a65c_clear_da8c8_29 : decode cJx4a65c_clear_da8c8 29 = .ok (.if_icmp .ge 13, 3) := by decide +kernel
theorem dJx4a65c_clear_da8c8_32 : decode cJx4a65c_clear_da8c8 32 = .ok (.aload_n 1, 1) := by decide +kernel
theorem dJx4a65c_clear_da8c8_33 : decode cJx4a65c_clear_da8c8 33 = .ok (.iload_n 3, 1) := by decide +kernel
theorem dJx4a65c_clear_da8c8_34 : decode cJx4a65c_clear_da8c8 34 = .ok (.aconst_null, 1) := by decide +kernel
theorem dJx4a65c_clear_da8c8_35 : decode cJx4a65c_clear_da8c8 35 = .ok (.aastore, 1) := by decide +kernel
theorem dJx4a65c_clear_da8c8_36 : decode cJx4a65c_clear_da8c8 36 = .ok (.iinc 3 1, 3) := by decide +kernel
theorem dJx4a65c_clear_da8c8_39 : decode cJx4a65c_clear_da8c8 39 = .ok (.goto (-12), 3) := by decide +kernel
theorem dJx4a65c_clear_da8c8_42 : decode cJx4a65c_clear_da8c8 42 = .ok (.return_, 1) := by decide +kernel
theorem dJ7_copyOf_1904c_0 : decode cJ7_copyOf_1904c 0 = .ok (.aload_n 0, 1) := by decide +kernel
theorem dJ7_copyOf_1904c_1 : decode cJ7_copyOf_1904c 1 = .ok (.iload_n 1, 1) := by decide +kernel
theorem dJ7_copyOf_1904c_2 : decode cJ7_copyOf_1904c 2 = .ok (.aload_n 0, 1) := by decide +kernel
theorem dJ7_copyOf_1904c_3 : decode cJ7_copyOf_1904c 3 = .ok (.invokevirtual 86, 3) := by decide +kernel
theorem dJ7_copyOf_1904c_6 : decode cJ7_copyOf_1904c 6 = .ok (.invokestatic 300, 3) := by decide +kernel
theorem dJ7_copyOf_1904c_9 : decode cJ7_copyOf_1904c 9 = .ok (.areturn, 1) := by decide +kernel
theorem dJ7_copyOf_6403c_0 : decode cJ7_copyOf_6403c 0 = .ok (.aload_n 2, 1) := by decide +kernel
theorem dJ7_copyOf_6403c_1 : decode cJ7_copyOf_6403c 1 = .ok (.ldc 110, 2) := by decide +kernel
theorem dJ7_copyOf_6403c_3 : decode cJ7_copyOf_6403c 3 = .ok (.if_acmp .ne 10, 3) := by decide +kernel
theorem dJ7_copyOf_6403c_6 : decode cJ7_copyOf_6403c 6 = .ok (.iload_n 1, 1) := by decide +kernel
theorem dJ7_copyOf_6403c_7 : decode cJ7_copyOf_6403c 7 = .ok (.anewarray 2, 3) := by decide +kernel
theorem dJ7_copyOf_6403c_10 : decode cJ7_copyOf_6403c 10 = .ok (.goto 14, 3) := by decide +kernel
theorem dJ7_copyOf_6403c_13 : decode cJ7_copyOf_6403c 13 = .ok (.aload_n 2, 1) := by decide +kernel
theorem dJ7_copyOf_6403c_14 : decode cJ7_copyOf_6403c 14 = .ok (.invokevirtual 90, 3) := by decide +kernel
theorem dJ7_copyOf_6403c_17 : decode cJ7_copyOf_6403c 17 = .ok (.iload_n 1, 1) := by decide +kernel
theorem dJ7_copyOf_6403c_18 : decode cJ7_copyOf_6403c 18 = .ok (.invokestatic 95, 3) := by decide +kernel
theorem dJ7_copyOf_6403c_21 : decode cJ7_copyOf_6403c 21 = .ok (.checkcast 110, 3) := by decide +kernel
theorem dJ7_copyOf_6403c_24 : decode cJ7_copyOf_6403c 24 = .ok (.astore_n 3, 1) := by decide +kernel
theorem dJ7_copyOf_6403c_25 : decode cJ7_copyOf_6403c 25 = .ok (.aload_n 0, 1) := by decide +kernel
theorem dJ7_copyOf_6403c_26 : decode cJ7_copyOf_6403c 26 = .ok (.iconst 0, 1) := by decide +kernel
theorem dJ7_copyOf_6403c_27 : decode cJ7_copyOf_6403c 27 = .ok (.aload_n 3, 1) := by decide +kernel
theorem dJ7_copyOf_6403c_28 : decode cJ7_copyOf_6403c 28 = .ok (.iconst 0, 1) := by decide +kernel
theorem dJ7_copyOf_6403c_29 : decode cJ7_copyOf_6403c 29 = .ok (.aload_n 0, 1) := by decide +kernel
theorem dJ7_copyOf_6403c_30 : decode cJ7_copyOf_6403c 30 = .ok (.arraylength, 1) := by decide +kernel
theorem dJ7_copyOf_6403c_31 : decode cJ7_copyOf_6403c 31 = .ok (.iload_n 1, 1) := by decide +kernel
theorem dJ7_copyOf_6403c_32 : decode cJ7_copyOf_6403c 32 = .ok (.invokestatic 304, 3) := by decide +kernel
theorem dJ7_copyOf_6403c_35 : decode cJ7_copyOf_6403c 35 = .ok (.invokestatic 150, 3) := by decide +kernel
theorem dJ7_copyOf_6403c_38 : decode cJ7_copyOf_6403c 38 = .ok (.aload_n 3, 1) := by decide +kernel
theorem dJ7_copyOf_6403c_39 : decode cJ7_copyOf_6403c 39 = .ok (.areturn, 1) := by decide +kernel
theorem dJ15_checkIndex_7cf53_0 : decode cJ15_checkIndex_7cf53 0 = .ok (.iload_n 0, 1) := by decide +kernel
theorem dJ15_checkIndex_7cf53_1 : decode cJ15_checkIndex_7cf53 1 = .ok (.iload_n 1, 1) := by decide +kernel
theorem dJ15_checkIndex_7cf53_2 : decode cJ15_checkIndex_7cf53 2 = .ok (.aconst_null, 1) := by decide +kernel
theorem dJ15_checkIndex_7cf53_3 : decode cJ15_checkIndex_7cf53 3 = .ok (.invokestatic 105, 3) := by decide +kernel
theorem dJ15_checkIndex_7cf53_6 : decode cJ15_checkIndex_7cf53 6 = .ok (.ireturn, 1) := by decide +kernel
theorem dJ8_newLength_cabcc_0 : decode cJ8_newLength_cabcc 0 = .ok (.iload_n 0, 1) := by decide +kernel
theorem dJ8_newLength_cabcc_1 : decode cJ8_newLength_cabcc 1 = .ok (.iload_n 1, 1) := by decide +kernel
theorem dJ8_newLength_cabcc_2 : decode cJ8_newLength_cabcc 2 = .ok (.iload_n 2, 1) := by decide +kernel
theorem dJ8_newLength_cabcc_3 : decode cJ8_newLength_cabcc 3 = .ok (.invokestatic 194, 3) := by decide +kernel
theorem dJ8_newLength_cabcc_6 : decode cJ8_newLength_cabcc 6 = .ok (.iadd, 1) := by decide +kernel
theorem dJ8_newLength_cabcc_7 : decode cJ8_newLength_cabcc 7 = .ok (.istore_n 3, 1) := by decide +kernel
theorem dJ8_newLength_cabcc_8 : decode cJ8_newLength_cabcc 8 = .ok (.iconst 0, 1) := by decide +kernel
theorem dJ8_newLength_cabcc_9 : decode cJ8_newLength_cabcc 9 = .ok (.iload_n 3, 1) := by decide +kernel
theorem dJ8_newLength_cabcc_10 : decode cJ8_newLength_cabcc 10 = .ok (.if_icmp .ge 11, 3) := by decide +kernel
theorem dJ8_newLength_cabcc_13 : decode cJ8_newLength_cabcc 13 = .ok (.iload_n 3, 1) := by decide +kernel
theorem dJ8_newLength_cabcc_14 : decode cJ8_newLength_cabcc 14 = .ok (.ldc 200, 2) := by decide +kernel
theorem dJ8_newLength_cabcc_16 : decode cJ8_newLength_cabcc 16 = .ok (.if_icmp .gt 5, 3) := by decide +kernel
theorem dJ8_newLength_cabcc_19 : decode cJ8_newLength_cabcc 19 = .ok (.iload_n 3, 1) := by decide +kernel
theorem dJ8_newLength_cabcc_20 : decode cJ8_newLength_cabcc 20 = .ok (.ireturn, 1) := by decide +kernel
theorem dJ8_newLength_cabcc_21 : decode cJ8_newLength_cabcc 21 = .ok (.iload_n 0, 1) := by decide +kernel
theorem dJ8_newLength_cabcc_22 : decode cJ8_newLength_cabcc 22 = .ok (.iload_n 1, 1) := by decide +kernel
theorem dJ8_newLength_cabcc_23 : decode cJ8_newLength_cabcc 23 = .ok (.invokestatic 201, 3) := by decide +kernel
theorem dJ8_newLength_cabcc_26 : decode cJ8_newLength_cabcc 26 = .ok (.ireturn, 1) := by decide +kernel
theorem dJ8_hugeLength_7cf53_0 : decode cJ8_hugeLength_7cf53 0 = .ok (.iload_n 0, 1) := by decide +kernel
theorem dJ8_hugeLength_7cf53_1 : decode cJ8_hugeLength_7cf53 1 = .ok (.iload_n 1, 1) := by decide +kernel
theorem dJ8_hugeLength_7cf53_2 : decode cJ8_hugeLength_7cf53 2 = .ok (.iadd, 1) := by decide +kernel
theorem dJ8_hugeLength_7cf53_3 : decode cJ8_hugeLength_7cf53 3 = .ok (.istore_n 2, 1) := by decide +kernel
theorem dJ8_hugeLength_7cf53_4 : decode cJ8_hugeLength_7cf53 4 = .ok (.iload_n 2, 1) := by decide +kernel
theorem dJ8_hugeLength_7cf53_5 : decode cJ8_hugeLength_7cf53 5 = .ok (.ifCond .ge 44, 3) := by decide +kernel
theorem dJ8_hugeLength_7cf53_8 : decode cJ8_hugeLength_7cf53 8 = .ok (.new 204, 3) := by decide +kernel
theorem dJ8_hugeLength_7cf53_11 : decode cJ8_hugeLength_7cf53 11 = .ok (.dup, 1) := by decide +kernel
theorem dJ8_hugeLength_7cf53_12 : decode cJ8_hugeLength_7cf53 12 = .ok (.new 89, 3) := by decide +kernel
theorem dJ8_hugeLength_7cf53_15 : decode cJ8_hugeLength_7cf53 15 = .ok (.dup, 1) := by decide +kernel
theorem dJ8_hugeLength_7cf53_16 : decode cJ8_hugeLength_7cf53 16 = .ok (.invokespecial 91, 3) := by decide +kernel
theorem dJ8_hugeLength_7cf53_19 : decode cJ8_hugeLength_7cf53 19 = .ok (.ldc 206, 2) := by decide +kernel
theorem dJ8_hugeLength_7cf53_21 : decode cJ8_hugeLength_7cf53 21 = .ok (.invokevirtual 94, 3) := by decide +kernel
theorem dJ8_hugeLength_7cf53_24 : decode cJ8_hugeLength_7cf53 24 = .ok (.iload_n 0, 1) := by decide +kernel
theorem dJ8_hugeLength_7cf53_25 : decode cJ8_hugeLength_7cf53 25 = .ok (.invokevirtual 98, 3) := by decide +kernel
theorem dJ8_hugeLength_7cf53_28 : decode cJ8_hugeLength_7cf53 28 = .ok (.ldc 208, 2) := by decide +kernel
theorem dJ8_hugeLength_7cf53_30 : decode cJ8_hugeLength_7cf53 30 = .ok (.invokevirtual 94, 3) := by decide +kernel
theorem dJ8_hugeLength_7cf53_33 : decode cJ8_hugeLength_7cf53 33 = .ok (.iload_n 1, 1) := by decide +kernel
theorem dJ8_hugeLength_7cf53_34 : decode cJ8_hugeLength_7cf53 34 = .ok (.invokevirtual 98, 3) := by decide +kernel
theorem dJ8_hugeLength_7cf53_37 : decode cJ8_hugeLength_7cf53 37 = .ok (.ldc 210, 2) := by decide +kernel
theorem dJ8_hugeLength_7cf53_39 : decode cJ8_hugeLength_7cf53 39 = .ok (.invokevirtual 94, 3) := by decide +kernel
theorem dJ8_hugeLength_7cf53_42 : decode cJ8_hugeLength_7cf53 42 = .ok (.invokevirtual 101, 3) := by decide +kernel
theorem dJ8_hugeLength_7cf53_45 : decode cJ8_hugeLength_7cf53 45 = .ok (.invokespecial 212, 3) := by decide +kernel
theorem dJ8_hugeLength_7cf53_48 : decode cJ8_hugeLength_7cf53 48 = .ok (.athrow, 1) := by decide +kernel
theorem dJ8_hugeLength_7cf53_49 : decode cJ8_hugeLength_7cf53 49 = .ok (.iload_n 2, 1) := by decide +kernel
theorem dJ8_hugeLength_7cf53_50 : decode cJ8_hugeLength_7cf53 50 = .ok (.ldc 200, 2) := by decide +kernel
theorem dJ8_hugeLength_7cf53_52 : decode cJ8_hugeLength_7cf53 52 = .ok (.if_icmp .gt 6, 3) := by decide +kernel
theorem dJ8_hugeLength_7cf53_55 : decode cJ8_hugeLength_7cf53 55 = .ok (.ldc 200, 2) := by decide +kernel
theorem dJ8_hugeLength_7cf53_57 : decode cJ8_hugeLength_7cf53 57 = .ok (.ireturn, 1) := by decide +kernel
theorem dJ8_hugeLength_7cf53_58 : decode cJ8_hugeLength_7cf53 58 = .ok (.iload_n 2, 1) := by decide +kernel
theorem dJ8_hugeLength_7cf53_59 : decode cJ8_hugeLength_7cf53 59 = .ok (.ireturn, 1) := by decide +kernel
theorem dJ3_checkIndex_8e157_0 : decode cJ3_checkIndex_8e157 0 = .ok (.iload_n 0, 1) := by decide +kernel
theorem dJ3_checkIndex_8e157_1 : decode cJ3_checkIndex_8e157 1 = .ok (.ifCond .lt 8, 3) := by decide +kernel
theorem dJ3_checkIndex_8e157_4 : decode cJ3_checkIndex_8e157 4 = .ok (.iload_n 0, 1) := by decide +kernel
theorem dJ3_checkIndex_8e157_5 : decode cJ3_checkIndex_8e157 5 = .ok (.iload_n 1, 1) := by decide +kernel
theorem dJ3_checkIndex_8e157_6 : decode cJ3_checkIndex_8e157 6 = .ok (.if_icmp .lt 10, 3) := by decide +kernel
theorem dJ3_checkIndex_8e157_9 : decode cJ3_checkIndex_8e157 9 = .ok (.aload_n 2, 1) := by decide +kernel
theorem dJ3_checkIndex_8e157_10 : decode cJ3_checkIndex_8e157 10 = .ok (.iload_n 0, 1) := by decide +kernel
theorem dJ3_checkIndex_8e157_11 : decode cJ3_checkIndex_8e157 11 = .ok (.iload_n 1, 1) := by decide +kernel
theorem dJ3_checkIndex_8e157_12 : decode cJ3_checkIndex_8e157 12 = .ok (.invokestatic 95, 3) := by decide +kernel
theorem dJ3_checkIndex_8e157_15 : decode cJ3_checkIndex_8e157 15 = .ok (.athrow, 1) := by decide +kernel
theorem dJ3_checkIndex_8e157_16 : decode cJ3_checkIndex_8e157 16 = .ok (.iload_n 0, 1) := by decide +kernel
theorem dJ3_checkIndex_8e157_17 : decode cJ3_checkIndex_8e157 17 = .ok (.ireturn, 1) := by decide +kernel
theorem dL_addFloor_0 : decode cL_addFloor 0 = .ok (.aload_n 3, 1) := by decide +kernel
theorem dL_addFloor_1 : decode cL_addFloor 1 = .ok (.iconst 0, 1) := by decide +kernel
theorem dL_addFloor_2 : decode cL_addFloor 2 = .ok (.aload_n 0, 1) := by decide +kernel
theorem dL_addFloor_3 : decode cL_addFloor 3 = .ok (.iload_n 1, 1) := by decide +kernel
theorem dL_addFloor_4 : decode cL_addFloor 4 = .ok (.iload_n 2, 1) := by decide +kernel
theorem dL_addFloor_5 : decode cL_addFloor 5 = .ok (.invokevirtual 7, 3) := by decide +kernel
theorem dL_addFloor_8 : decode cL_addFloor 8 = .ok (.i2l, 1) := by decide +kernel
theorem dL_addFloor_9 : decode cL_addFloor 9 = .ok (.lastore, 1) := by decide +kernel
theorem dL_addFloor_10 : decode cL_addFloor 10 = .ok (.goto 11, 3) := by decide +kernel
theorem dL_addFloor_13 : decode cL_addFloor 13 = .ok (.astore 4, 2) := by decide +kernel
theorem dL_addFloor_15 : decode cL_addFloor 15 = .ok (.iconst 1, 1) := by decide +kernel
theorem dL_addFloor_16 : decode cL_addFloor 16 = .ok (.ireturn, 1) := by decide +kernel
theorem dL_addFloor_17 : decode cL_addFloor 17 = .ok (.astore 4, 2) := by decide +kernel
theorem dL_addFloor_19 : decode cL_addFloor 19 = .ok (.iconst 2, 1) := by decide +kernel
theorem dL_addFloor_20 : decode cL_addFloor 20 = .ok (.ireturn, 1) := by decide +kernel
theorem dL_addFloor_21 : decode cL_addFloor 21 = .ok (.iconst 0, 1) := by decide +kernel
theorem dL_addFloor_22 : decode cL_addFloor 22 = .ok (.ireturn, 1) := by decide +kernel
theorem dL_setCost_0 : decode cL_setCost 0 = .ok (.aload_n 3, 1) := by decide +kernel
theorem dL_setCost_1 : decode cL_setCost 1 = .ok (.iconst 0, 1) := by decide +kernel
theorem dL_setCost_2 : decode cL_setCost 2 = .ok (.aload_n 0, 1) := by decide +kernel
theorem dL_setCost_3 : decode cL_setCost 3 = .ok (.iload_n 1, 1) := by decide +kernel
theorem dL_setCost_4 : decode cL_setCost 4 = .ok (.iload_n 2, 1) := by decide +kernel
theorem dL_setCost_5 : decode cL_setCost 5 = .ok (.invokevirtual 17, 3) := by decide +kernel
theorem dL_setCost_8 : decode cL_setCost 8 = .ok (.i2l, 1) := by decide +kernel
theorem dL_setCost_9 : decode cL_setCost 9 = .ok (.lastore, 1) := by decide +kernel
theorem dL_setCost_10 : decode cL_setCost 10 = .ok (.goto 11, 3) := by decide +kernel
theorem dL_setCost_13 : decode cL_setCost 13 = .ok (.astore 4, 2) := by decide +kernel
theorem dL_setCost_15 : decode cL_setCost 15 = .ok (.iconst 1, 1) := by decide +kernel
theorem dL_setCost_16 : decode cL_setCost 16 = .ok (.ireturn, 1) := by decide +kernel
theorem dL_setCost_17 : decode cL_setCost 17 = .ok (.astore 4, 2) := by decide +kernel
theorem dL_setCost_19 : decode cL_setCost 19 = .ok (.iconst 2, 1) := by decide +kernel
theorem dL_setCost_20 : decode cL_setCost 20 = .ok (.ireturn, 1) := by decide +kernel
theorem dL_setCost_21 : decode cL_setCost 21 = .ok (.iconst 0, 1) := by decide +kernel
theorem dL_setCost_22 : decode cL_setCost 22 = .ok (.ireturn, 1) := by decide +kernel
theorem dL_addPerson_0 : decode cL_addPerson 0 = .ok (.aload_n 2, 1) := by decide +kernel
theorem dL_addPerson_1 : decode cL_addPerson 1 = .ok (.iconst 0, 1) := by decide +kernel
theorem dL_addPerson_2 : decode cL_addPerson 2 = .ok (.aload_n 0, 1) := by decide +kernel
theorem dL_addPerson_3 : decode cL_addPerson 3 = .ok (.iload_n 1, 1) := by decide +kernel
theorem dL_addPerson_4 : decode cL_addPerson 4 = .ok (.invokevirtual 22, 3) := by decide +kernel
theorem dL_addPerson_7 : decode cL_addPerson 7 = .ok (.i2l, 1) := by decide +kernel
theorem dL_addPerson_8 : decode cL_addPerson 8 = .ok (.lastore, 1) := by decide +kernel
theorem dL_addPerson_9 : decode cL_addPerson 9 = .ok (.goto 9, 3) := by decide +kernel
theorem dL_addPerson_12 : decode cL_addPerson 12 = .ok (.astore_n 3, 1) := by decide +kernel
theorem dL_addPerson_13 : decode cL_addPerson 13 = .ok (.iconst 1, 1) := by decide +kernel
theorem dL_addPerson_14 : decode cL_addPerson 14 = .ok (.ireturn, 1) := by decide +kernel
theorem dL_addPerson_15 : decode cL_addPerson 15 = .ok (.astore_n 3, 1) := by decide +kernel
theorem dL_addPerson_16 : decode cL_addPerson 16 = .ok (.iconst 2, 1) := by decide +kernel
theorem dL_addPerson_17 : decode cL_addPerson 17 = .ok (.ireturn, 1) := by decide +kernel
theorem dL_addPerson_18 : decode cL_addPerson 18 = .ok (.iconst 0, 1) := by decide +kernel
theorem dL_addPerson_19 : decode cL_addPerson 19 = .ok (.ireturn, 1) := by decide +kernel
theorem dL_standing_0 : decode cL_standing 0 = .ok (.aload_n 2, 1) := by decide +kernel
theorem dL_standing_1 : decode cL_standing 1 = .ok (.iconst 0, 1) := by decide +kernel
theorem dL_standing_2 : decode cL_standing 2 = .ok (.aload_n 0, 1) := by decide +kernel
theorem dL_standing_3 : decode cL_standing 3 = .ok (.iload_n 1, 1) := by decide +kernel
theorem dL_standing_4 : decode cL_standing 4 = .ok (.invokevirtual 26, 3) := by decide +kernel
theorem dL_standing_7 : decode cL_standing 7 = .ok (.i2l, 1) := by decide +kernel
theorem dL_standing_8 : decode cL_standing 8 = .ok (.lastore, 1) := by decide +kernel
theorem dL_standing_9 : decode cL_standing 9 = .ok (.goto 6, 3) := by decide +kernel
theorem dL_standing_12 : decode cL_standing 12 = .ok (.astore_n 3, 1) := by decide +kernel
theorem dL_standing_13 : decode cL_standing 13 = .ok (.iconst 1, 1) := by decide +kernel
theorem dL_standing_14 : decode cL_standing 14 = .ok (.ireturn, 1) := by decide +kernel
theorem dL_standing_15 : decode cL_standing 15 = .ok (.iconst 0, 1) := by decide +kernel
theorem dL_standing_16 : decode cL_standing 16 = .ok (.ireturn, 1) := by decide +kernel
theorem dL_book_0 : decode cL_book 0 = .ok (.aload_n 3, 1) := by decide +kernel
theorem dL_book_1 : decode cL_book 1 = .ok (.iconst 0, 1) := by decide +kernel
theorem dL_book_2 : decode cL_book 2 = .ok (.aload_n 0, 1) := by decide +kernel
theorem dL_book_3 : decode cL_book 3 = .ok (.iload_n 1, 1) := by decide +kernel
theorem dL_book_4 : decode cL_book 4 = .ok (.iload_n 2, 1) := by decide +kernel
theorem dL_book_5 : decode cL_book 5 = .ok (.invokevirtual 31, 3) := by decide +kernel
theorem dL_book_8 : decode cL_book 8 = .ok (.i2l, 1) := by decide +kernel
theorem dL_book_9 : decode cL_book 9 = .ok (.lastore, 1) := by decide +kernel
theorem dL_book_10 : decode cL_book 10 = .ok (.goto 19, 3) := by decide +kernel
theorem dL_book_13 : decode cL_book 13 = .ok (.astore 4, 2) := by decide +kernel
theorem dL_book_15 : decode cL_book 15 = .ok (.iconst 1, 1) := by decide +kernel
theorem dL_book_16 : decode cL_book 16 = .ok (.ireturn, 1) := by decide +kernel
theorem dL_book_17 : decode cL_book 17 = .ok (.astore 4, 2) := by decide +kernel
theorem dL_book_19 : decode cL_book 19 = .ok (.iconst 2, 1) := by decide +kernel
theorem dL_book_20 : decode cL_book 20 = .ok (.ireturn, 1) := by decide +kernel
theorem dL_book_21 : decode cL_book 21 = .ok (.astore 4, 2) := by decide +kernel
theorem dL_book_23 : decode cL_book 23 = .ok (.iconst 3, 1) := by decide +kernel
theorem dL_book_24 : decode cL_book 24 = .ok (.ireturn, 1) := by decide +kernel
theorem dL_book_25 : decode cL_book 25 = .ok (.astore 4, 2) := by decide +kernel
theorem dL_book_27 : decode cL_book 27 = .ok (.iconst 4, 1) := by decide +kernel
theorem dL_book_28 : decode cL_book 28 = .ok (.ireturn, 1) := by decide +kernel
theorem dL_book_29 : decode cL_book 29 = .ok (.iconst 0, 1) := by decide +kernel
theorem dL_book_30 : decode cL_book 30 = .ok (.ireturn, 1) := by decide +kernel
theorem dL_cancel_0 : decode cL_cancel 0 = .ok (.aload_n 2, 1) := by decide +kernel
theorem dL_cancel_1 : decode cL_cancel 1 = .ok (.iconst 0, 1) := by decide +kernel
theorem dL_cancel_2 : decode cL_cancel 2 = .ok (.aload_n 0, 1) := by decide +kernel
theorem dL_cancel_3 : decode cL_cancel 3 = .ok (.iload_n 1, 1) := by decide +kernel
theorem dL_cancel_4 : decode cL_cancel 4 = .ok (.invokevirtual 36, 3) := by decide +kernel
theorem dL_cancel_7 : decode cL_cancel 7 = .ok (.i2l, 1) := by decide +kernel
theorem dL_cancel_8 : decode cL_cancel 8 = .ok (.lastore, 1) := by decide +kernel
theorem dL_cancel_9 : decode cL_cancel 9 = .ok (.goto 6, 3) := by decide +kernel
theorem dL_cancel_12 : decode cL_cancel 12 = .ok (.astore_n 3, 1) := by decide +kernel
theorem dL_cancel_13 : decode cL_cancel 13 = .ok (.iconst 1, 1) := by decide +kernel
theorem dL_cancel_14 : decode cL_cancel 14 = .ok (.ireturn, 1) := by decide +kernel
theorem dL_cancel_15 : decode cL_cancel 15 = .ok (.iconst 0, 1) := by decide +kernel
theorem dL_cancel_16 : decode cL_cancel 16 = .ok (.ireturn, 1) := by decide +kernel
theorem dL_bookingAt_0 : decode cL_bookingAt 0 = .ok (.aload_n 2, 1) := by decide +kernel
theorem dL_bookingAt_1 : decode cL_bookingAt 1 = .ok (.iconst 0, 1) := by decide +kernel
theorem dL_bookingAt_2 : decode cL_bookingAt 2 = .ok (.aload_n 0, 1) := by decide +kernel
theorem dL_bookingAt_3 : decode cL_bookingAt 3 = .ok (.iload_n 1, 1) := by decide +kernel
theorem dL_bookingAt_4 : decode cL_bookingAt 4 = .ok (.invokevirtual 39, 3) := by decide +kernel
theorem dL_bookingAt_7 : decode cL_bookingAt 7 = .ok (.i2l, 1) := by decide +kernel
theorem dL_bookingAt_8 : decode cL_bookingAt 8 = .ok (.lastore, 1) := by decide +kernel
theorem dL_bookingAt_9 : decode cL_bookingAt 9 = .ok (.goto 6, 3) := by decide +kernel
theorem dL_bookingAt_12 : decode cL_bookingAt 12 = .ok (.astore_n 3, 1) := by decide +kernel
theorem dL_bookingAt_13 : decode cL_bookingAt 13 = .ok (.iconst 1, 1) := by decide +kernel
theorem dL_bookingAt_14 : decode cL_bookingAt 14 = .ok (.ireturn, 1) := by decide +kernel
theorem dL_bookingAt_15 : decode cL_bookingAt 15 = .ok (.iconst 0, 1) := by decide +kernel
theorem dL_bookingAt_16 : decode cL_bookingAt 16 = .ok (.ireturn, 1) := by decide +kernel
theorem dL_lossOf_0 : decode cL_lossOf 0 = .ok (.aload_n 2, 1) := by decide +kernel
theorem dL_lossOf_1 : decode cL_lossOf 1 = .ok (.iconst 0, 1) := by decide +kernel
theorem dL_lossOf_2 : decode cL_lossOf 2 = .ok (.aload_n 0, 1) := by decide +kernel
theorem dL_lossOf_3 : decode cL_lossOf 3 = .ok (.iload_n 1, 1) := by decide +kernel
theorem dL_lossOf_4 : decode cL_lossOf 4 = .ok (.invokevirtual 42, 3) := by decide +kernel
theorem dL_lossOf_7 : decode cL_lossOf 7 = .ok (.i2l, 1) := by decide +kernel
theorem dL_lossOf_8 : decode cL_lossOf 8 = .ok (.lastore, 1) := by decide +kernel
theorem dL_lossOf_9 : decode cL_lossOf 9 = .ok (.goto 9, 3) := by decide +kernel
theorem dL_lossOf_12 : decode cL_lossOf 12 = .ok (.astore_n 3, 1) := by decide +kernel
theorem dL_lossOf_13 : decode cL_lossOf 13 = .ok (.iconst 1, 1) := by decide +kernel
theorem dL_lossOf_14 : decode cL_lossOf 14 = .ok (.ireturn, 1) := by decide +kernel
theorem dL_lossOf_15 : decode cL_lossOf 15 = .ok (.astore_n 3, 1) := by decide +kernel
theorem dL_lossOf_16 : decode cL_lossOf 16 = .ok (.iconst 2, 1) := by decide +kernel
theorem dL_lossOf_17 : decode cL_lossOf 17 = .ok (.ireturn, 1) := by decide +kernel
theorem dL_lossOf_18 : decode cL_lossOf 18 = .ok (.iconst 0, 1) := by decide +kernel
theorem dL_lossOf_19 : decode cL_lossOf 19 = .ok (.ireturn, 1) := by decide +kernel
theorem dL_nextDay_0 : decode cL_nextDay 0 = .ok (.aload_n 1, 1) := by decide +kernel
theorem dL_nextDay_1 : decode cL_nextDay 1 = .ok (.iconst 0, 1) := by decide +kernel
theorem dL_nextDay_2 : decode cL_nextDay 2 = .ok (.aload_n 0, 1) := by decide +kernel
theorem dL_nextDay_3 : decode cL_nextDay 3 = .ok (.invokevirtual 45, 3) := by decide +kernel
theorem dL_nextDay_6 : decode cL_nextDay 6 = .ok (.i2l, 1) := by decide +kernel
theorem dL_nextDay_7 : decode cL_nextDay 7 = .ok (.lastore, 1) := by decide +kernel
theorem dL_nextDay_8 : decode cL_nextDay 8 = .ok (.goto 6, 3) := by decide +kernel
theorem dL_nextDay_11 : decode cL_nextDay 11 = .ok (.astore_n 2, 1) := by decide +kernel
theorem dL_nextDay_12 : decode cL_nextDay 12 = .ok (.iconst 1, 1) := by decide +kernel
theorem dL_nextDay_13 : decode cL_nextDay 13 = .ok (.ireturn, 1) := by decide +kernel
theorem dL_nextDay_14 : decode cL_nextDay 14 = .ok (.iconst 0, 1) := by decide +kernel
theorem dL_nextDay_15 : decode cL_nextDay 15 = .ok (.ireturn, 1) := by decide +kernel
theorem dL_comeIn_0 : decode cL_comeIn 0 = .ok (.aload_n 2, 1) := by decide +kernel
theorem dL_comeIn_1 : decode cL_comeIn 1 = .ok (.iconst 0, 1) := by decide +kernel
theorem dL_comeIn_2 : decode cL_comeIn 2 = .ok (.aload_n 0, 1) := by decide +kernel
theorem dL_comeIn_3 : decode cL_comeIn 3 = .ok (.iload_n 1, 1) := by decide +kernel
theorem dL_comeIn_4 : decode cL_comeIn 4 = .ok (.invokevirtual 49, 3) := by decide +kernel
theorem dL_comeIn_7 : decode cL_comeIn 7 = .ok (.i2l, 1) := by decide +kernel
theorem dL_comeIn_8 : decode cL_comeIn 8 = .ok (.lastore, 1) := by decide +kernel
theorem dL_comeIn_9 : decode cL_comeIn 9 = .ok (.goto 9, 3) := by decide +kernel
theorem dL_comeIn_12 : decode cL_comeIn 12 = .ok (.astore_n 3, 1) := by decide +kernel
theorem dL_comeIn_13 : decode cL_comeIn 13 = .ok (.iconst 1, 1) := by decide +kernel
theorem dL_comeIn_14 : decode cL_comeIn 14 = .ok (.ireturn, 1) := by decide +kernel
theorem dL_comeIn_15 : decode cL_comeIn 15 = .ok (.astore_n 3, 1) := by decide +kernel
theorem dL_comeIn_16 : decode cL_comeIn 16 = .ok (.iconst 2, 1) := by decide +kernel
theorem dL_comeIn_17 : decode cL_comeIn 17 = .ok (.ireturn, 1) := by decide +kernel
theorem dL_comeIn_18 : decode cL_comeIn 18 = .ok (.iconst 0, 1) := by decide +kernel
theorem dL_comeIn_19 : decode cL_comeIn 19 = .ok (.ireturn, 1) := by decide +kernel
theorem dL_leave_0 : decode cL_leave 0 = .ok (.aload_n 2, 1) := by decide +kernel
theorem dL_leave_1 : decode cL_leave 1 = .ok (.iconst 0, 1) := by decide +kernel
theorem dL_leave_2 : decode cL_leave 2 = .ok (.aload_n 0, 1) := by decide +kernel
theorem dL_leave_3 : decode cL_leave 3 = .ok (.iload_n 1, 1) := by decide +kernel
theorem dL_leave_4 : decode cL_leave 4 = .ok (.invokevirtual 52, 3) := by decide +kernel
theorem dL_leave_7 : decode cL_leave 7 = .ok (.i2l, 1) := by decide +kernel
theorem dL_leave_8 : decode cL_leave 8 = .ok (.lastore, 1) := by decide +kernel
theorem dL_leave_9 : decode cL_leave 9 = .ok (.goto 9, 3) := by decide +kernel
theorem dL_leave_12 : decode cL_leave 12 = .ok (.astore_n 3, 1) := by decide +kernel
theorem dL_leave_13 : decode cL_leave 13 = .ok (.iconst 1, 1) := by decide +kernel
theorem dL_leave_14 : decode cL_leave 14 = .ok (.ireturn, 1) := by decide +kernel
theorem dL_leave_15 : decode cL_leave 15 = .ok (.astore_n 3, 1) := by decide +kernel
theorem dL_leave_16 : decode cL_leave 16 = .ok (.iconst 2, 1) := by decide +kernel
theorem dL_leave_17 : decode cL_leave 17 = .ok (.ireturn, 1) := by decide +kernel
theorem dL_leave_18 : decode cL_leave 18 = .ok (.iconst 0, 1) := by decide +kernel
theorem dL_leave_19 : decode cL_leave 19 = .ok (.ireturn, 1) := by decide +kernel
theorem dL_seatOf_0 : decode cL_seatOf 0 = .ok (.aload_n 2, 1) := by decide +kernel
theorem dL_seatOf_1 : decode cL_seatOf 1 = .ok (.iconst 0, 1) := by decide +kernel
theorem dL_seatOf_2 : decode cL_seatOf 2 = .ok (.aload_n 0, 1) := by decide +kernel
theorem dL_seatOf_3 : decode cL_seatOf 3 = .ok (.iload_n 1, 1) := by decide +kernel
theorem dL_seatOf_4 : decode cL_seatOf 4 = .ok (.invokevirtual 55, 3) := by decide +kernel
theorem dL_seatOf_7 : decode cL_seatOf 7 = .ok (.i2l, 1) := by decide +kernel
theorem dL_seatOf_8 : decode cL_seatOf 8 = .ok (.lastore, 1) := by decide +kernel
theorem dL_seatOf_9 : decode cL_seatOf 9 = .ok (.goto 6, 3) := by decide +kernel
theorem dL_seatOf_12 : decode cL_seatOf 12 = .ok (.astore_n 3, 1) := by decide +kernel
theorem dL_seatOf_13 : decode cL_seatOf 13 = .ok (.iconst 1, 1) := by decide +kernel
theorem dL_seatOf_14 : decode cL_seatOf 14 = .ok (.ireturn, 1) := by decide +kernel
theorem dL_seatOf_15 : decode cL_seatOf 15 = .ok (.iconst 0, 1) := by decide +kernel
theorem dL_seatOf_16 : decode cL_seatOf 16 = .ok (.ireturn, 1) := by decide +kernel
theorem dL_isIn_0 : decode cL_isIn 0 = .ok (.aload_n 2, 1) := by decide +kernel
theorem dL_isIn_1 : decode cL_isIn 1 = .ok (.iconst 0, 1) := by decide +kernel
theorem dL_isIn_2 : decode cL_isIn 2 = .ok (.aload_n 0, 1) := by decide +kernel
theorem dL_isIn_3 : decode cL_isIn 3 = .ok (.iload_n 1, 1) := by decide +kernel
theorem dL_isIn_4 : decode cL_isIn 4 = .ok (.invokevirtual 58, 3) := by decide +kernel
theorem dL_isIn_7 : decode cL_isIn 7 = .ok (.ifCond .eq 7, 3) := by decide +kernel
theorem dL_isIn_10 : decode cL_isIn 10 = .ok (.lconst 1, 1) := by decide +kernel
theorem dL_isIn_11 : decode cL_isIn 11 = .ok (.goto 4, 3) := by decide +kernel
theorem dL_isIn_14 : decode cL_isIn 14 = .ok (.lconst 0, 1) := by decide +kernel
theorem dL_isIn_15 : decode cL_isIn 15 = .ok (.lastore, 1) := by decide +kernel
theorem dL_isIn_16 : decode cL_isIn 16 = .ok (.goto 6, 3) := by decide +kernel
theorem dL_isIn_19 : decode cL_isIn 19 = .ok (.astore_n 3, 1) := by decide +kernel
theorem dL_isIn_20 : decode cL_isIn 20 = .ok (.iconst 1, 1) := by decide +kernel
theorem dL_isIn_21 : decode cL_isIn 21 = .ok (.ireturn, 1) := by decide +kernel
theorem dL_isIn_22 : decode cL_isIn 22 = .ok (.iconst 0, 1) := by decide +kernel
theorem dL_isIn_23 : decode cL_isIn 23 = .ok (.ireturn, 1) := by decide +kernel
theorem dL_isOpen_0 : decode cL_isOpen 0 = .ok (.aload_n 2, 1) := by decide +kernel
theorem dL_isOpen_1 : decode cL_isOpen 1 = .ok (.iconst 0, 1) := by decide +kernel
theorem dL_isOpen_2 : decode cL_isOpen 2 = .ok (.aload_n 0, 1) := by decide +kernel
theorem dL_isOpen_3 : decode cL_isOpen 3 = .ok (.iload_n 1, 1) := by decide +kernel
theorem dL_isOpen_4 : decode cL_isOpen 4 = .ok (.invokevirtual 62, 3) := by decide +kernel
theorem dL_isOpen_7 : decode cL_isOpen 7 = .ok (.ifCond .eq 7, 3) := by decide +kernel
theorem dL_isOpen_10 : decode cL_isOpen 10 = .ok (.lconst 1, 1) := by decide +kernel
theorem dL_isOpen_11 : decode cL_isOpen 11 = .ok (.goto 4, 3) := by decide +kernel
theorem dL_isOpen_14 : decode cL_isOpen 14 = .ok (.lconst 0, 1) := by decide +kernel
theorem dL_isOpen_15 : decode cL_isOpen 15 = .ok (.lastore, 1) := by decide +kernel
theorem dL_isOpen_16 : decode cL_isOpen 16 = .ok (.goto 6, 3) := by decide +kernel
theorem dL_isOpen_19 : decode cL_isOpen 19 = .ok (.astore_n 3, 1) := by decide +kernel
theorem dL_isOpen_20 : decode cL_isOpen 20 = .ok (.iconst 1, 1) := by decide +kernel
theorem dL_isOpen_21 : decode cL_isOpen 21 = .ok (.ireturn, 1) := by decide +kernel
theorem dL_isOpen_22 : decode cL_isOpen 22 = .ok (.iconst 0, 1) := by decide +kernel
theorem dL_isOpen_23 : decode cL_isOpen 23 = .ok (.ireturn, 1) := by decide +kernel
theorem dL_seated_0 : decode cL_seated 0 = .ok (.aload_n 3, 1) := by decide +kernel
theorem dL_seated_1 : decode cL_seated 1 = .ok (.iconst 0, 1) := by decide +kernel
theorem dL_seated_2 : decode cL_seated 2 = .ok (.aload_n 0, 1) := by decide +kernel
theorem dL_seated_3 : decode cL_seated 3 = .ok (.iload_n 1, 1) := by decide +kernel
theorem dL_seated_4 : decode cL_seated 4 = .ok (.iload_n 2, 1) := by decide +kernel
theorem dL_seated_5 : decode cL_seated 5 = .ok (.invokevirtual 65, 3) := by decide +kernel
theorem dL_seated_8 : decode cL_seated 8 = .ok (.i2l, 1) := by decide +kernel
theorem dL_seated_9 : decode cL_seated 9 = .ok (.lastore, 1) := by decide +kernel
theorem dL_seated_10 : decode cL_seated 10 = .ok (.goto 11, 3) := by decide +kernel
theorem dL_seated_13 : decode cL_seated 13 = .ok (.astore 4, 2) := by decide +kernel
theorem dL_seated_15 : decode cL_seated 15 = .ok (.iconst 1, 1) := by decide +kernel
theorem dL_seated_16 : decode cL_seated 16 = .ok (.ireturn, 1) := by decide +kernel
theorem dL_seated_17 : decode cL_seated 17 = .ok (.astore 4, 2) := by decide +kernel
theorem dL_seated_19 : decode cL_seated 19 = .ok (.iconst 2, 1) := by decide +kernel
theorem dL_seated_20 : decode cL_seated 20 = .ok (.ireturn, 1) := by decide +kernel
theorem dL_seated_21 : decode cL_seated 21 = .ok (.iconst 0, 1) := by decide +kernel
theorem dL_seated_22 : decode cL_seated 22 = .ok (.ireturn, 1) := by decide +kernel
theorem dL_pass_0 : decode cL_pass 0 = .ok (.aload_n 2, 1) := by decide +kernel
theorem dL_pass_1 : decode cL_pass 1 = .ok (.iconst 0, 1) := by decide +kernel
theorem dL_pass_2 : decode cL_pass 2 = .ok (.aload_n 0, 1) := by decide +kernel
theorem dL_pass_3 : decode cL_pass 3 = .ok (.iload_n 1, 1) := by decide +kernel
theorem dL_pass_4 : decode cL_pass 4 = .ok (.invokevirtual 68, 3) := by decide +kernel
theorem dL_pass_7 : decode cL_pass 7 = .ok (.i2l, 1) := by decide +kernel
theorem dL_pass_8 : decode cL_pass 8 = .ok (.lastore, 1) := by decide +kernel
theorem dL_pass_9 : decode cL_pass 9 = .ok (.goto 6, 3) := by decide +kernel
theorem dL_pass_12 : decode cL_pass 12 = .ok (.astore_n 3, 1) := by decide +kernel
theorem dL_pass_13 : decode cL_pass 13 = .ok (.iconst 1, 1) := by decide +kernel
theorem dL_pass_14 : decode cL_pass 14 = .ok (.ireturn, 1) := by decide +kernel
theorem dL_pass_15 : decode cL_pass 15 = .ok (.iconst 0, 1) := by decide +kernel
theorem dL_pass_16 : decode cL_pass 16 = .ok (.ireturn, 1) := by decide +kernel
theorem dL_warmth_0 : decode cL_warmth 0 = .ok (.aload_n 2, 1) := by decide +kernel
theorem dL_warmth_1 : decode cL_warmth 1 = .ok (.iconst 0, 1) := by decide +kernel
theorem dL_warmth_2 : decode cL_warmth 2 = .ok (.aload_n 0, 1) := by decide +kernel
theorem dL_warmth_3 : decode cL_warmth 3 = .ok (.iload_n 1, 1) := by decide +kernel
theorem dL_warmth_4 : decode cL_warmth 4 = .ok (.invokevirtual 71, 3) := by decide +kernel
theorem dL_warmth_7 : decode cL_warmth 7 = .ok (.i2l, 1) := by decide +kernel
theorem dL_warmth_8 : decode cL_warmth 8 = .ok (.lastore, 1) := by decide +kernel
theorem dL_warmth_9 : decode cL_warmth 9 = .ok (.goto 6, 3) := by decide +kernel
theorem dL_warmth_12 : decode cL_warmth 12 = .ok (.astore_n 3, 1) := by decide +kernel
theorem dL_warmth_13 : decode cL_warmth 13 = .ok (.iconst 1, 1) := by decide +kernel
theorem dL_warmth_14 : decode cL_warmth 14 = .ok (.ireturn, 1) := by decide +kernel
theorem dL_warmth_15 : decode cL_warmth 15 = .ok (.iconst 0, 1) := by decide +kernel
theorem dL_warmth_16 : decode cL_warmth 16 = .ok (.ireturn, 1) := by decide +kernel
theorem dL_air_0 : decode cL_air 0 = .ok (.aload_n 2, 1) := by decide +kernel
theorem dL_air_1 : decode cL_air 1 = .ok (.iconst 0, 1) := by decide +kernel
theorem dL_air_2 : decode cL_air 2 = .ok (.aload_n 0, 1) := by decide +kernel
theorem dL_air_3 : decode cL_air 3 = .ok (.iload_n 1, 1) := by decide +kernel
theorem dL_air_4 : decode cL_air 4 = .ok (.invokevirtual 74, 3) := by decide +kernel
theorem dL_air_7 : decode cL_air 7 = .ok (.i2l, 1) := by decide +kernel
theorem dL_air_8 : decode cL_air 8 = .ok (.lastore, 1) := by decide +kernel
theorem dL_air_9 : decode cL_air 9 = .ok (.goto 6, 3) := by decide +kernel
theorem dL_air_12 : decode cL_air 12 = .ok (.astore_n 3, 1) := by decide +kernel
theorem dL_air_13 : decode cL_air 13 = .ok (.iconst 1, 1) := by decide +kernel
theorem dL_air_14 : decode cL_air 14 = .ok (.ireturn, 1) := by decide +kernel
theorem dL_air_15 : decode cL_air 15 = .ok (.iconst 0, 1) := by decide +kernel
theorem dL_air_16 : decode cL_air 16 = .ok (.ireturn, 1) := by decide +kernel
theorem dL_meanStanding_0 : decode cL_meanStanding 0 = .ok (.aload_n 1, 1) := by decide +kernel
theorem dL_meanStanding_1 : decode cL_meanStanding 1 = .ok (.iconst 0, 1) := by decide +kernel
theorem dL_meanStanding_2 : decode cL_meanStanding 2 = .ok (.aload_n 0, 1) := by decide +kernel
theorem dL_meanStanding_3 : decode cL_meanStanding 3 = .ok (.invokevirtual 77, 3) := by decide +kernel
theorem dL_meanStanding_6 : decode cL_meanStanding 6 = .ok (.dastore, 1) := by decide +kernel
theorem dL_meanStanding_7 : decode cL_meanStanding 7 = .ok (.goto 6, 3) := by decide +kernel
theorem dL_meanStanding_10 : decode cL_meanStanding 10 = .ok (.astore_n 2, 1) := by decide +kernel
theorem dL_meanStanding_11 : decode cL_meanStanding 11 = .ok (.iconst 1, 1) := by decide +kernel
theorem dL_meanStanding_12 : decode cL_meanStanding 12 = .ok (.ireturn, 1) := by decide +kernel
theorem dL_meanStanding_13 : decode cL_meanStanding 13 = .ok (.iconst 0, 1) := by decide +kernel
theorem dL_meanStanding_14 : decode cL_meanStanding 14 = .ok (.ireturn, 1) := by decide +kernel
theorem dL_givenShare_0 : decode cL_givenShare 0 = .ok (.aload_n 1, 1) := by decide +kernel
theorem dL_givenShare_1 : decode cL_givenShare 1 = .ok (.iconst 0, 1) := by decide +kernel
theorem dL_givenShare_2 : decode cL_givenShare 2 = .ok (.aload_n 0, 1) := by decide +kernel
theorem dL_givenShare_3 : decode cL_givenShare 3 = .ok (.invokevirtual 83, 3) := by decide +kernel
theorem dL_givenShare_6 : decode cL_givenShare 6 = .ok (.f2d, 1) := by decide +kernel
theorem dL_givenShare_7 : decode cL_givenShare 7 = .ok (.dastore, 1) := by decide +kernel
theorem dL_givenShare_8 : decode cL_givenShare 8 = .ok (.goto 6, 3) := by decide +kernel
theorem dL_givenShare_11 : decode cL_givenShare 11 = .ok (.astore_n 2, 1) := by decide +kernel
theorem dL_givenShare_12 : decode cL_givenShare 12 = .ok (.iconst 1, 1) := by decide +kernel
theorem dL_givenShare_13 : decode cL_givenShare 13 = .ok (.ireturn, 1) := by decide +kernel
theorem dL_givenShare_14 : decode cL_givenShare 14 = .ok (.iconst 0, 1) := by decide +kernel
theorem dL_givenShare_15 : decode cL_givenShare 15 = .ok (.ireturn, 1) := by decide +kernel
theorem dL_law_0 : decode cL_law 0 = .ok (.new 8, 3) := by decide +kernel
theorem dL_law_3 : decode cL_law 3 = .ok (.dup, 1) := by decide +kernel
theorem dL_law_4 : decode cL_law 4 = .ok (.invokespecial 87, 3) := by decide +kernel
theorem dL_law_7 : decode cL_law 7 = .ok (.astore_n 1, 1) := by decide +kernel
theorem dL_law_8 : decode cL_law 8 = .ok (.new 88, 3) := by decide +kernel
theorem dL_law_11 : decode cL_law 11 = .ok (.dup, 1) := by decide +kernel
theorem dL_law_12 : decode cL_law 12 = .ok (.invokespecial 90, 3) := by decide +kernel
theorem dL_law_15 : decode cL_law 15 = .ok (.astore_n 2, 1) := by decide +kernel
theorem dL_law_16 : decode cL_law 16 = .ok (.iconst 1, 1) := by decide +kernel
theorem dL_law_17 : decode cL_law 17 = .ok (.newarray .long, 2) := by decide +kernel
theorem dL_law_19 : decode cL_law 19 = .ok (.astore_n 3, 1) := by decide +kernel
theorem dL_law_20 : decode cL_law 20 = .ok (.iconst 1, 1) := by decide +kernel
theorem dL_law_21 : decode cL_law 21 = .ok (.newarray .double, 2) := by decide +kernel
theorem dL_law_23 : decode cL_law 23 = .ok (.astore 4, 2) := by decide +kernel
theorem dL_law_25 : decode cL_law 25 = .ok (.iconst 0, 1) := by decide +kernel
theorem dL_law_26 : decode cL_law 26 = .ok (.istore 5, 2) := by decide +kernel
theorem dL_law_28 : decode cL_law 28 = .ok (.iload 5, 2) := by decide +kernel
theorem dL_law_30 : decode cL_law 30 = .ok (.aload_n 0, 1) := by decide +kernel
theorem dL_law_31 : decode cL_law 31 = .ok (.arraylength, 1) := by decide +kernel
theorem dL_law_32 : decode cL_law 32 = .ok (.iconst 3, 1) := by decide +kernel
theorem dL_law_33 : decode cL_law 33 = .ok (.isub, 1) := by decide +kernel
theorem dL_law_34 : decode cL_law 34 = .ok (.if_icmp .gt 1474, 3) := by decide +kernel
theorem dL_law_37 : decode cL_law 37 = .ok (.aload_n 0, 1) := by decide +kernel
theorem dL_law_38 : decode cL_law 38 = .ok (.iload 5, 2) := by decide +kernel
theorem dL_law_40 : decode cL_law 40 = .ok (.iaload, 1) := by decide +kernel
theorem dL_law_41 : decode cL_law 41 = .ok (.bipush 31, 2) := by decide +kernel
theorem dL_law_43 : decode cL_law 43 = .ok (.iand, 1) := by decide +kernel
theorem dL_law_44 : decode cL_law 44 = .ok (.tableswitch 1458 0 29 #[136, 204, 272, 328, 384, 452, 508, 521, 577, 590, 603, 616, 672, 716, 729, 785, 841, 897, 960, 1023, 1091, 1147, 1203, 1259, 1273, 1287, 1301, 1314, 1379, 1445], 136) := by decide +kernel
theorem dL_law_180 : decode cL_law 180 = .ok (.aload_n 1, 1) := by decide +kernel
theorem dL_law_181 : decode cL_law 181 = .ok (.aload_n 0, 1) := by decide +kernel
theorem dL_law_182 : decode cL_law 182 = .ok (.iload 5, 2) := by decide +kernel
theorem dL_law_184 : decode cL_law 184 = .ok (.iconst 1, 1) := by decide +kernel
theorem dL_law_185 : decode cL_law 185 = .ok (.iadd, 1) := by decide +kernel
theorem dL_law_186 : decode cL_law 186 = .ok (.iaload, 1) := by decide +kernel
theorem dL_law_187 : decode cL_law 187 = .ok (.aload_n 0, 1) := by decide +kernel
theorem dL_law_188 : decode cL_law 188 = .ok (.iload 5, 2) := by decide +kernel
theorem dL_law_190 : decode cL_law 190 = .ok (.iconst 2, 1) := by decide +kernel
theorem dL_law_191 : decode cL_law 191 = .ok (.iadd, 1) := by decide +kernel
theorem dL_law_192 : decode cL_law 192 = .ok (.iaload, 1) := by decide +kernel
theorem dL_law_193 : decode cL_law 193 = .ok (.aload_n 3, 1) := by decide +kernel
theorem dL_law_194 : decode cL_law 194 = .ok (.invokestatic 91, 3) := by decide +kernel
theorem dL_law_197 : decode cL_law 197 = .ok (.istore 6, 2) := by decide +kernel
theorem dL_law_199 : decode cL_law 199 = .ok (.aload_n 2, 1) := by decide +kernel
theorem dL_law_200 : decode cL_law 200 = .ok (.aload_n 0, 1) := by decide +kernel
theorem dL_law_201 : decode cL_law 201 = .ok (.iload 5, 2) := by decide +kernel
theorem dL_law_203 : decode cL_law 203 = .ok (.iconst 1, 1) := by decide +kernel
theorem dL_law_204 : decode cL_law 204 = .ok (.iadd, 1) := by decide +kernel
theorem dL_law_205 : decode cL_law 205 = .ok (.iaload, 1) := by decide +kernel
theorem dL_law_206 : decode cL_law 206 = .ok (.aload_n 0, 1) := by decide +kernel
theorem dL_law_207 : decode cL_law 207 = .ok (.iload 5, 2) := by decide +kernel
theorem dL_law_209 : decode cL_law 209 = .ok (.iconst 2, 1) := by decide +kernel
theorem dL_law_210 : decode cL_law 210 = .ok (.iadd, 1) := by decide +kernel
theorem dL_law_211 : decode cL_law 211 = .ok (.iaload, 1) := by decide +kernel
theorem dL_law_212 : decode cL_law 212 = .ok (.invokevirtual 96, 3) := by decide +kernel
theorem dL_law_215 : decode cL_law 215 = .ok (.istore 7, 2) := by decide +kernel
theorem dL_law_217 : decode cL_law 217 = .ok (.aload_n 2, 1) := by decide +kernel
theorem dL_law_218 : decode cL_law 218 = .ok (.invokevirtual 97, 3) := by decide +kernel
theorem dL_law_221 : decode cL_law 221 = .ok (.iload 6, 2) := by decide +kernel
theorem dL_law_223 : decode cL_law 223 = .ok (.if_icmp .eq 5, 3) := by decide +kernel
theorem dL_law_226 : decode cL_law 226 = .ok (.iconst 0, 1) := by decide +kernel
theorem dL_law_227 : decode cL_law 227 = .ok (.ireturn, 1) := by decide +kernel
theorem dL_law_228 : decode cL_law 228 = .ok (.iload 6, 2) := by decide +kernel
theorem dL_law_230 : decode cL_law 230 = .ok (.ifCond .ne 15, 3) := by decide +kernel
theorem dL_law_233 : decode cL_law 233 = .ok (.aload_n 3, 1) := by decide +kernel
theorem dL_law_234 : decode cL_law 234 = .ok (.iconst 0, 1) := by decide +kernel
theorem dL_law_235 : decode cL_law 235 = .ok (.laload, 1) := by decide +kernel
theorem dL_law_236 : decode cL_law 236 = .ok (.iload 7, 2) := by decide +kernel
theorem dL_law_238 : decode cL_law 238 = .ok (.i2l, 1) := by decide +kernel
theorem dL_law_239 : decode cL_law 239 = .ok (.lcmp, 1) := by decide +kernel
theorem dL_law_240 : decode cL_law 240 = .ok (.ifCond .eq 5, 3) := by decide +kernel
theorem dL_law_243 : decode cL_law 243 = .ok (.iconst 0, 1) := by decide +kernel
theorem dL_law_244 : decode cL_law 244 = .ok (.ireturn, 1) := by decide +kernel
theorem dL_law_245 : decode cL_law 245 = .ok (.goto 1257, 3) := by decide +kernel
theorem dL_law_248 : decode cL_law 248 = .ok (.aload_n 1, 1) := by decide +kernel
theorem dL_law_249 : decode cL_law 249 = .ok (.aload_n 0, 1) := by decide +kernel
theorem dL_law_250 : decode cL_law 250 = .ok (.iload 5, 2) := by decide +kernel
theorem dL_law_252 : decode cL_law 252 = .ok (.iconst 1, 1) := by decide +kernel
theorem dL_law_253 : decode cL_law 253 = .ok (.iadd, 1) := by decide +kernel
theorem dL_law_254 : decode cL_law 254 = .ok (.iaload, 1) := by decide +kernel
theorem dL_law_255 : decode cL_law 255 = .ok (.aload_n 0, 1) := by decide +kernel
theorem dL_law_256 : decode cL_law 256 = .ok (.iload 5, 2) := by decide +kernel
theorem dL_law_258 : decode cL_law 258 = .ok (.iconst 2, 1) := by decide +kernel
theorem dL_law_259 : decode cL_law 259 = .ok (.iadd, 1) := by decide +kernel
theorem dL_law_260 : decode cL_law 260 = .ok (.iaload, 1) := by decide +kernel
theorem dL_law_261 : decode cL_law 261 = .ok (.aload_n 3, 1) := by decide +kernel
theorem dL_law_262 : decode cL_law 262 = .ok (.invokestatic 100, 3) := by decide +kernel
theorem dL_law_265 : decode cL_law 265 = .ok (.istore 6, 2) := by decide +kernel
theorem dL_law_267 : decode cL_law 267 = .ok (.aload_n 2, 1) := by decide +kernel
theorem dL_law_268 : decode cL_law 268 = .ok (.aload_n 0, 1) := by decide +kernel
theorem dL_law_269 : decode cL_law 269 = .ok (.iload 5, 2) := by decide +kernel
theorem dL_law_271 : decode cL_law 271 = .ok (.iconst 1, 1) := by decide +kernel
theorem dL_law_272 : decode cL_law 272 = .ok (.iadd, 1) := by decide +kernel
theorem dL_law_273 : decode cL_law 273 = .ok (.iaload, 1) := by decide +kernel
theorem dL_law_274 : decode cL_law 274 = .ok (.aload_n 0, 1) := by decide +kernel
theorem dL_law_275 : decode cL_law 275 = .ok (.iload 5, 2) := by decide +kernel
theorem dL_law_277 : decode cL_law 277 = .ok (.iconst 2, 1) := by decide +kernel
theorem dL_law_278 : decode cL_law 278 = .ok (.iadd, 1) := by decide +kernel
theorem dL_law_279 : decode cL_law 279 = .ok (.iaload, 1) := by decide +kernel
theorem dL_law_280 : decode cL_law 280 = .ok (.invokevirtual 102, 3) := by decide +kernel
theorem dL_law_283 : decode cL_law 283 = .ok (.istore 7, 2) := by decide +kernel
theorem dL_law_285 : decode cL_law 285 = .ok (.aload_n 2, 1) := by decide +kernel
theorem dL_law_286 : decode cL_law 286 = .ok (.invokevirtual 97, 3) := by decide +kernel
theorem dL_law_289 : decode cL_law 289 = .ok (.iload 6, 2) := by decide +kernel
theorem dL_law_291 : decode cL_law 291 = .ok (.if_icmp .eq 5, 3) := by decide +kernel
theorem dL_law_294 : decode cL_law 294 = .ok (.iconst 0, 1) := by decide +kernel
theorem dL_law_295 : decode cL_law 295 = .ok (.ireturn, 1) := by decide +kernel
theorem dL_law_296 : decode cL_law 296 = .ok (.iload 6, 2) := by decide +kernel
theorem dL_law_298 : decode cL_law 298 = .ok (.ifCond .ne 15, 3) := by decide +kernel
theorem dL_law_301 : decode cL_law 301 = .ok (.aload_n 3, 1) := by decide +kernel
theorem dL_law_302 : decode cL_law 302 = .ok (.iconst 0, 1) := by decide +kernel
theorem dL_law_303 : decode cL_law 303 = .ok (.laload, 1) := by decide +kernel
theorem dL_law_304 : decode cL_law 304 = .ok (.iload 7, 2) := by decide +kernel
theorem dL_law_306 : decode cL_law 306 = .ok (.i2l, 1) := by decide +kernel
theorem dL_law_307 : decode cL_law 307 = .ok (.lcmp, 1) := by decide +kernel
theorem dL_law_308 : decode cL_law 308 = .ok (.ifCond .eq 5, 3) := by decide +kernel
theorem dL_law_311 : decode cL_law 311 = .ok (.iconst 0, 1) := by decide +kernel
theorem dL_law_312 : decode cL_law 312 = .ok (.ireturn, 1) := by decide +kernel
theorem dL_law_313 : decode cL_law 313 = .ok (.goto 1189, 3) := by decide +kernel
theorem dL_law_316 : decode cL_law 316 = .ok (.aload_n 1, 1) := by decide +kernel
theorem dL_law_317 : decode cL_law 317 = .ok (.aload_n 0, 1) := by decide +kernel
theorem dL_law_318 : decode cL_law 318 = .ok (.iload 5, 2) := by decide +kernel
theorem dL_law_320 : decode cL_law 320 = .ok (.iconst 1, 1) := by decide +kernel
theorem dL_law_321 : decode cL_law 321 = .ok (.iadd, 1) := by decide +kernel
theorem dL_law_322 : decode cL_law 322 = .ok (.iaload, 1) := by decide +kernel
theorem dL_law_323 : decode cL_law 323 = .ok (.aload_n 3, 1) := by decide +kernel
theorem dL_law_324 : decode cL_law 324 = .ok (.invokestatic 103, 3) := by decide +kernel
theorem dL_law_327 : decode cL_law 327 = .ok (.istore 6, 2) := by decide +kernel
theorem dL_law_329 : decode cL_law 329 = .ok (.aload_n 2, 1) := by decide +kernel
theorem dL_law_330 : decode cL_law 330 = .ok (.aload_n 0, 1) := by decide +kernel
theorem dL_law_331 : decode cL_law 331 = .ok (.iload 5, 2) := by decide +kernel
theorem dL_law_333 : decode cL_law 333 = .ok (.iconst 1, 1) := by decide +kernel
theorem dL_law_334 : decode cL_law 334 = .ok (.iadd, 1) := by decide +kernel
theorem dL_law_335 : decode cL_law 335 = .ok (.iaload, 1) := by decide +kernel
theorem dL_law_336 : decode cL_law 336 = .ok (.invokevirtual 106, 3) := by decide +kernel
theorem dL_law_339 : decode cL_law 339 = .ok (.istore 7, 2) := by decide +kernel
theorem dL_law_341 : decode cL_law 341 = .ok (.aload_n 2, 1) := by decide +kernel
theorem dL_law_342 : decode cL_law 342 = .ok (.invokevirtual 97, 3) := by decide +kernel
theorem dL_law_345 : decode cL_law 345 = .ok (.iload 6, 2) := by decide +kernel
theorem dL_law_347 : decode cL_law 347 = .ok (.if_icmp .eq 5, 3) := by decide +kernel
theorem dL_law_350 : decode cL_law 350 = .ok (.iconst 0, 1) := by decide +kernel
theorem dL_law_351 : decode cL_law 351 = .ok (.ireturn, 1) := by decide +kernel
theorem dL_law_352 : decode cL_law 352 = .ok (.iload 6, 2) := by decide +kernel
theorem dL_law_354 : decode cL_law 354 = .ok (.ifCond .ne 15, 3) := by decide +kernel
theorem dL_law_357 : decode cL_law 357 = .ok (.aload_n 3, 1) := by decide +kernel
theorem dL_law_358 : decode cL_law 358 = .ok (.iconst 0, 1) := by decide +kernel
theorem dL_law_359 : decode cL_law 359 = .ok (.laload, 1) := by decide +kernel
theorem dL_law_360 : decode cL_law 360 = .ok (.iload 7, 2) := by decide +kernel
theorem dL_law_362 : decode cL_law 362 = .ok (.i2l, 1) := by decide +kernel
theorem dL_law_363 : decode cL_law 363 = .ok (.lcmp, 1) := by decide +kernel
theorem dL_law_364 : decode cL_law 364 = .ok (.ifCond .eq 5, 3) := by decide +kernel
theorem dL_law_367 : decode cL_law 367 = .ok (.iconst 0, 1) := by decide +kernel
theorem dL_law_368 : decode cL_law 368 = .ok (.ireturn, 1) := by decide +kernel
theorem dL_law_369 : decode cL_law 369 = .ok (.goto 1133, 3) := by decide +kernel
theorem dL_law_372 : decode cL_law 372 = .ok (.aload_n 1, 1) := by decide +kernel
theorem dL_law_373 : decode cL_law 373 = .ok (.aload_n 0, 1) := by decide +kernel
theorem dL_law_374 : decode cL_law 374 = .ok (.iload 5, 2) := by decide +kernel
theorem dL_law_376 : decode cL_law 376 = .ok (.iconst 1, 1) := by decide +kernel
theorem dL_law_377 : decode cL_law 377 = .ok (.iadd, 1) := by decide +kernel
theorem dL_law_378 : decode cL_law 378 = .ok (.iaload, 1) := by decide +kernel
theorem dL_law_379 : decode cL_law 379 = .ok (.aload_n 3, 1) := by decide +kernel
theorem dL_law_380 : decode cL_law 380 = .ok (.invokestatic 107, 3) := by decide +kernel
theorem dL_law_383 : decode cL_law 383 = .ok (.istore 6, 2) := by decide +kernel
theorem dL_law_385 : decode cL_law 385 = .ok (.aload_n 2, 1) := by decide +kernel
theorem dL_law_386 : decode cL_law 386 = .ok (.aload_n 0, 1) := by decide +kernel
theorem dL_law_387 : decode cL_law 387 = .ok (.iload 5, 2) := by decide +kernel
theorem dL_law_389 : decode cL_law 389 = .ok (.iconst 1, 1) := by decide +kernel
theorem dL_law_390 : decode cL_law 390 = .ok (.iadd, 1) := by decide +kernel
theorem dL_law_391 : decode cL_law 391 = .ok (.iaload, 1) := by decide +kernel
theorem dL_law_392 : decode cL_law 392 = .ok (.invokevirtual 109, 3) := by decide +kernel
theorem dL_law_395 : decode cL_law 395 = .ok (.istore 7, 2) := by decide +kernel
theorem dL_law_397 : decode cL_law 397 = .ok (.aload_n 2, 1) := by decide +kernel
theorem dL_law_398 : decode cL_law 398 = .ok (.invokevirtual 97, 3) := by decide +kernel
theorem dL_law_401 : decode cL_law 401 = .ok (.iload 6, 2) := by decide +kernel
theorem dL_law_403 : decode cL_law 403 = .ok (.if_icmp .eq 5, 3) := by decide +kernel
theorem dL_law_406 : decode cL_law 406 = .ok (.iconst 0, 1) := by decide +kernel
theorem dL_law_407 : decode cL_law 407 = .ok (.ireturn, 1) := by decide +kernel
theorem dL_law_408 : decode cL_law 408 = .ok (.iload 6, 2) := by decide +kernel
theorem dL_law_410 : decode cL_law 410 = .ok (.ifCond .ne 15, 3) := by decide +kernel
theorem dL_law_413 : decode cL_law 413 = .ok (.aload_n 3, 1) := by decide +kernel
theorem dL_law_414 : decode cL_law 414 = .ok (.iconst 0, 1) := by decide +kernel
theorem dL_law_415 : decode cL_law 415 = .ok (.laload, 1) := by decide +kernel
theorem dL_law_416 : decode cL_law 416 = .ok (.iload 7, 2) := by decide +kernel
theorem dL_law_418 : decode cL_law 418 = .ok (.i2l, 1) := by decide +kernel
theorem dL_law_419 : decode cL_law 419 = .ok (.lcmp, 1) := by decide +kernel
theorem dL_law_420 : decode cL_law 420 = .ok (.ifCond .eq 5, 3) := by decide +kernel
theorem dL_law_423 : decode cL_law 423 = .ok (.iconst 0, 1) := by decide +kernel
theorem dL_law_424 : decode cL_law 424 = .ok (.ireturn, 1) := by decide +kernel
theorem dL_law_425 : decode cL_law 425 = .ok (.goto 1077, 3) := by decide +kernel
theorem dL_law_428 : decode cL_law 428 = .ok (.aload_n 1, 1) := by decide +kernel
theorem dL_law_429 : decode cL_law 429 = .ok (.aload_n 0, 1) := by decide +kernel
theorem dL_law_430 : decode cL_law 430 = .ok (.iload 5, 2) := by decide +kernel
theorem dL_law_432 : decode cL_law 432 = .ok (.iconst 1, 1) := by decide +kernel
theorem dL_law_433 : decode cL_law 433 = .ok (.iadd, 1) := by decide +kernel
theorem dL_law_434 : decode cL_law 434 = .ok (.iaload, 1) := by decide +kernel
theorem dL_law_435 : decode cL_law 435 = .ok (.aload_n 0, 1) := by decide +kernel
theorem dL_law_436 : decode cL_law 436 = .ok (.iload 5, 2) := by decide +kernel
theorem dL_law_438 : decode cL_law 438 = .ok (.iconst 2, 1) := by decide +kernel
theorem dL_law_439 : decode cL_law 439 = .ok (.iadd, 1) := by decide +kernel
theorem dL_law_440 : decode cL_law 440 = .ok (.iaload, 1) := by decide +kernel
theorem dL_law_441 : decode cL_law 441 = .ok (.aload_n 3, 1) := by decide +kernel
theorem dL_law_442 : decode cL_law 442 = .ok (.invokestatic 110, 3) := by decide +kernel
theorem dL_law_445 : decode cL_law 445 = .ok (.istore 6, 2) := by decide +kernel
theorem dL_law_447 : decode cL_law 447 = .ok (.aload_n 2, 1) := by decide +kernel
theorem dL_law_448 : decode cL_law 448 = .ok (.aload_n 0, 1) := by decide +kernel
theorem dL_law_449 : decode cL_law 449 = .ok (.iload 5, 2) := by decide +kernel
theorem dL_law_451 : decode cL_law 451 = .ok (.iconst 1, 1) := by decide +kernel
theorem dL_law_452 : decode cL_law 452 = .ok (.iadd, 1) := by decide +kernel
theorem dL_law_453 : decode cL_law 453 = .ok (.iaload, 1) := by decide +kernel
theorem dL_law_454 : decode cL_law 454 = .ok (.aload_n 0, 1) := by decide +kernel
theorem dL_law_455 : decode cL_law 455 = .ok (.iload 5, 2) := by decide +kernel
theorem dL_law_457 : decode cL_law 457 = .ok (.iconst 2, 1) := by decide +kernel
theorem dL_law_458 : decode cL_law 458 = .ok (.iadd, 1) := by decide +kernel
theorem dL_law_459 : decode cL_law 459 = .ok (.iaload, 1) := by decide +kernel
theorem dL_law_460 : decode cL_law 460 = .ok (.invokevirtual 112, 3) := by decide +kernel
theorem dL_law_463 : decode cL_law 463 = .ok (.istore 7, 2) := by decide +kernel
theorem dL_law_465 : decode cL_law 465 = .ok (.aload_n 2, 1) := by decide +kernel
theorem dL_law_466 : decode cL_law 466 = .ok (.invokevirtual 97, 3) := by decide +kernel
theorem dL_law_469 : decode cL_law 469 = .ok (.iload 6, 2) := by decide +kernel
theorem dL_law_471 : decode cL_law 471 = .ok (.if_icmp .eq 5, 3) := by decide +kernel
theorem dL_law_474 : decode cL_law 474 = .ok (.iconst 0, 1) := by decide +kernel
theorem dL_law_475 : decode cL_law 475 = .ok (.ireturn, 1) := by decide +kernel
theorem dL_law_476 : decode cL_law 476 = .ok (.iload 6, 2) := by decide +kernel
theorem dL_law_478 : decode cL_law 478 = .ok (.ifCond .ne 15, 3) := by decide +kernel
theorem dL_law_481 : decode cL_law 481 = .ok (.aload_n 3, 1) := by decide +kernel
theorem dL_law_482 : decode cL_law 482 = .ok (.iconst 0, 1) := by decide +kernel
theorem dL_law_483 : decode cL_law 483 = .ok (.laload, 1) := by decide +kernel
theorem dL_law_484 : decode cL_law 484 = .ok (.iload 7, 2) := by decide +kernel
theorem dL_law_486 : decode cL_law 486 = .ok (.i2l, 1) := by decide +kernel
theorem dL_law_487 : decode cL_law 487 = .ok (.lcmp, 1) := by decide +kernel
theorem dL_law_488 : decode cL_law 488 = .ok (.ifCond .eq 5, 3) := by decide +kernel
theorem dL_law_491 : decode cL_law 491 = .ok (.iconst 0, 1) := by decide +kernel
theorem dL_law_492 : decode cL_law 492 = .ok (.ireturn, 1) := by decide +kernel
theorem dL_law_493 : decode cL_law 493 = .ok (.goto 1009, 3) := by decide +kernel
theorem dL_law_496 : decode cL_law 496 = .ok (.aload_n 1, 1) := by decide +kernel
theorem dL_law_497 : decode cL_law 497 = .ok (.aload_n 0, 1) := by decide +kernel
theorem dL_law_498 : decode cL_law 498 = .ok (.iload 5, 2) := by decide +kernel
theorem dL_law_500 : decode cL_law 500 = .ok (.iconst 1, 1) := by decide +kernel
theorem dL_law_501 : decode cL_law 501 = .ok (.iadd, 1) := by decide +kernel
theorem dL_law_502 : decode cL_law 502 = .ok (.iaload, 1) := by decide +kernel
theorem dL_law_503 : decode cL_law 503 = .ok (.aload_n 3, 1) := by decide +kernel
theorem dL_law_504 : decode cL_law 504 = .ok (.invokestatic 113, 3) := by decide +kernel
theorem dL_law_507 : decode cL_law 507 = .ok (.istore 6, 2) := by decide +kernel
theorem dL_law_509 : decode cL_law 509 = .ok (.aload_n 2, 1) := by decide +kernel
theorem dL_law_510 : decode cL_law 510 = .ok (.aload_n 0, 1) := by decide +kernel
theorem dL_law_511 : decode cL_law 511 = .ok (.iload 5, 2) := by decide +kernel
theorem dL_law_513 : decode cL_law 513 = .ok (.iconst 1, 1) := by decide +kernel
theorem dL_law_514 : decode cL_law 514 = .ok (.iadd, 1) := by decide +kernel
theorem dL_law_515 : decode cL_law 515 = .ok (.iaload, 1) := by decide +kernel
theorem dL_law_516 : decode cL_law 516 = .ok (.invokevirtual 115, 3) := by decide +kernel
theorem dL_law_519 : decode cL_law 519 = .ok (.istore 7, 2) := by decide +kernel
theorem dL_law_521 : decode cL_law 521 = .ok (.aload_n 2, 1) := by decide +kernel
theorem dL_law_522 : decode cL_law 522 = .ok (.invokevirtual 97, 3) := by decide +kernel
theorem dL_law_525 : decode cL_law 525 = .ok (.iload 6, 2) := by decide +kernel
theorem dL_law_527 : decode cL_law 527 = .ok (.if_icmp .eq 5, 3) := by decide +kernel
theorem dL_law_530 : decode cL_law 530 = .ok (.iconst 0, 1) := by decide +kernel
theorem dL_law_531 : decode cL_law 531 = .ok (.ireturn, 1) := by decide +kernel
theorem dL_law_532 : decode cL_law 532 = .ok (.iload 6, 2) := by decide +kernel
theorem dL_law_534 : decode cL_law 534 = .ok (.ifCond .ne 15, 3) := by decide +kernel
theorem dL_law_537 : decode cL_law 537 = .ok (.aload_n 3, 1) := by decide +kernel
theorem dL_law_538 : decode cL_law 538 = .ok (.iconst 0, 1) := by decide +kernel
theorem dL_law_539 : decode cL_law 539 = .ok (.laload, 1) := by decide +kernel
theorem dL_law_540 : decode cL_law 540 = .ok (.iload 7, 2) := by decide +kernel
theorem dL_law_542 : decode cL_law 542 = .ok (.i2l, 1) := by decide +kernel
theorem dL_law_543 : decode cL_law 543 = .ok (.lcmp, 1) := by decide +kernel
theorem dL_law_544 : decode cL_law 544 = .ok (.ifCond .eq 5, 3) := by decide +kernel
theorem dL_law_547 : decode cL_law 547 = .ok (.iconst 0, 1) := by decide +kernel
theorem dL_law_548 : decode cL_law 548 = .ok (.ireturn, 1) := by decide +kernel
theorem dL_law_549 : decode cL_law 549 = .ok (.goto 953, 3) := by decide +kernel
theorem dL_law_552 : decode cL_law 552 = .ok (.aload_n 1, 1) := by decide +kernel
theorem dL_law_553 : decode cL_law 553 = .ok (.invokevirtual 116, 3) := by decide +kernel
theorem dL_law_556 : decode cL_law 556 = .ok (.aload_n 2, 1) := by decide +kernel
theorem dL_law_557 : decode cL_law 557 = .ok (.invokevirtual 119, 3) := by decide +kernel
theorem dL_law_560 : decode cL_law 560 = .ok (.if_icmp .eq 942, 3) := by decide +kernel
theorem dL_law_563 : decode cL_law 563 = .ok (.iconst 0, 1) := by decide +kernel
theorem dL_law_564 : decode cL_law 564 = .ok (.ireturn, 1) := by decide +kernel
theorem dL_law_565 : decode cL_law 565 = .ok (.aload_n 1, 1) := by decide +kernel
theorem dL_law_566 : decode cL_law 566 = .ok (.aload_n 0, 1) := by decide +kernel
theorem dL_law_567 : decode cL_law 567 = .ok (.iload 5, 2) := by decide +kernel
theorem dL_law_569 : decode cL_law 569 = .ok (.iconst 1, 1) := by decide +kernel
theorem dL_law_570 : decode cL_law 570 = .ok (.iadd, 1) := by decide +kernel
theorem dL_law_571 : decode cL_law 571 = .ok (.iaload, 1) := by decide +kernel
theorem dL_law_572 : decode cL_law 572 = .ok (.aload_n 3, 1) := by decide +kernel
theorem dL_law_573 : decode cL_law 573 = .ok (.invokestatic 120, 3) := by decide +kernel
theorem dL_law_576 : decode cL_law 576 = .ok (.istore 6, 2) := by decide +kernel
theorem dL_law_578 : decode cL_law 578 = .ok (.aload_n 2, 1) := by decide +kernel
theorem dL_law_579 : decode cL_law 579 = .ok (.aload_n 0, 1) := by decide +kernel
theorem dL_law_580 : decode cL_law 580 = .ok (.iload 5, 2) := by decide +kernel
theorem dL_law_582 : decode cL_law 582 = .ok (.iconst 1, 1) := by decide +kernel
theorem dL_law_583 : decode cL_law 583 = .ok (.iadd, 1) := by decide +kernel
theorem dL_law_584 : decode cL_law 584 = .ok (.iaload, 1) := by decide +kernel
theorem dL_law_585 : decode cL_law 585 = .ok (.invokevirtual 122, 3) := by decide +kernel
theorem dL_law_588 : decode cL_law 588 = .ok (.istore 7, 2) := by decide +kernel
theorem dL_law_590 : decode cL_law 590 = .ok (.aload_n 2, 1) := by decide +kernel
theorem dL_law_591 : decode cL_law 591 = .ok (.invokevirtual 97, 3) := by decide +kernel
theorem dL_law_594 : decode cL_law 594 = .ok (.iload 6, 2) := by decide +kernel
theorem dL_law_596 : decode cL_law 596 = .ok (.if_icmp .eq 5, 3) := by decide +kernel
theorem dL_law_599 : decode cL_law 599 = .ok (.iconst 0, 1) := by decide +kernel
theorem dL_law_600 : decode cL_law 600 = .ok (.ireturn, 1) := by decide +kernel
theorem dL_law_601 : decode cL_law 601 = .ok (.iload 6, 2) := by decide +kernel
theorem dL_law_603 : decode cL_law 603 = .ok (.ifCond .ne 15, 3) := by decide +kernel
theorem dL_law_606 : decode cL_law 606 = .ok (.aload_n 3, 1) := by decide +kernel
theorem dL_law_607 : decode cL_law 607 = .ok (.iconst 0, 1) := by decide +kernel
theorem dL_law_608 : decode cL_law 608 = .ok (.laload, 1) := by decide +kernel
theorem dL_law_609 : decode cL_law 609 = .ok (.iload 7, 2) := by decide +kernel
theorem dL_law_611 : decode cL_law 611 = .ok (.i2l, 1) := by decide +kernel
theorem dL_law_612 : decode cL_law 612 = .ok (.lcmp, 1) := by decide +kernel
theorem dL_law_613 : decode cL_law 613 = .ok (.ifCond .eq 5, 3) := by decide +kernel
theorem dL_law_616 : decode cL_law 616 = .ok (.iconst 0, 1) := by decide +kernel
theorem dL_law_617 : decode cL_law 617 = .ok (.ireturn, 1) := by decide +kernel
theorem dL_law_618 : decode cL_law 618 = .ok (.goto 884, 3) := by decide +kernel
theorem dL_law_621 : decode cL_law 621 = .ok (.aload_n 1, 1) := by decide +kernel
theorem dL_law_622 : decode cL_law 622 = .ok (.invokevirtual 123, 3) := by decide +kernel
theorem dL_law_625 : decode cL_law 625 = .ok (.aload_n 2, 1) := by decide +kernel
theorem dL_law_626 : decode cL_law 626 = .ok (.invokevirtual 126, 3) := by decide +kernel
theorem dL_law_629 : decode cL_law 629 = .ok (.if_icmp .eq 873, 3) := by decide +kernel
theorem dL_law_632 : decode cL_law 632 = .ok (.iconst 0, 1) := by decide +kernel
theorem dL_law_633 : decode cL_law 633 = .ok (.ireturn, 1) := by decide +kernel
theorem dL_law_634 : decode cL_law 634 = .ok (.aload_n 1, 1) := by decide +kernel
theorem dL_law_635 : decode cL_law 635 = .ok (.invokevirtual 127, 3) := by decide +kernel
theorem dL_law_638 : decode cL_law 638 = .ok (.aload_n 2, 1) := by decide +kernel
theorem dL_law_639 : decode cL_law 639 = .ok (.invokevirtual 130, 3) := by decide +kernel
theorem dL_law_642 : decode cL_law 642 = .ok (.if_icmp .eq 860, 3) := by decide +kernel
theorem dL_law_645 : decode cL_law 645 = .ok (.iconst 0, 1) := by decide +kernel
theorem dL_law_646 : decode cL_law 646 = .ok (.ireturn, 1) := by decide +kernel
theorem dL_law_647 : decode cL_law 647 = .ok (.aload_n 1, 1) := by decide +kernel
theorem dL_law_648 : decode cL_law 648 = .ok (.invokevirtual 131, 3) := by decide +kernel
theorem dL_law_651 : decode cL_law 651 = .ok (.aload_n 2, 1) := by decide +kernel
theorem dL_law_652 : decode cL_law 652 = .ok (.invokevirtual 134, 3) := by decide +kernel
theorem dL_law_655 : decode cL_law 655 = .ok (.if_icmp .eq 847, 3) := by decide +kernel
theorem dL_law_658 : decode cL_law 658 = .ok (.iconst 0, 1) := by decide +kernel
theorem dL_law_659 : decode cL_law 659 = .ok (.ireturn, 1) := by decide +kernel
theorem dL_law_660 : decode cL_law 660 = .ok (.aload_n 1, 1) := by decide +kernel
theorem dL_law_661 : decode cL_law 661 = .ok (.aload_n 0, 1) := by decide +kernel
theorem dL_law_662 : decode cL_law 662 = .ok (.iload 5, 2) := by decide +kernel
theorem dL_law_664 : decode cL_law 664 = .ok (.iconst 1, 1) := by decide +kernel
theorem dL_law_665 : decode cL_law 665 = .ok (.iadd, 1) := by decide +kernel
theorem dL_law_666 : decode cL_law 666 = .ok (.iaload, 1) := by decide +kernel
theorem dL_law_667 : decode cL_law 667 = .ok (.aload_n 3, 1) := by decide +kernel
theorem dL_law_668 : decode cL_law 668 = .ok (.invokestatic 135, 3) := by decide +kernel
theorem dL_law_671 : decode cL_law 671 = .ok (.istore 6, 2) := by decide +kernel
theorem dL_law_673 : decode cL_law 673 = .ok (.aload_n 2, 1) := by decide +kernel
theorem dL_law_674 : decode cL_law 674 = .ok (.aload_n 0, 1) := by decide +kernel
theorem dL_law_675 : decode cL_law 675 = .ok (.iload 5, 2) := by decide +kernel
theorem dL_law_677 : decode cL_law 677 = .ok (.iconst 1, 1) := by decide +kernel
theorem dL_law_678 : decode cL_law 678 = .ok (.iadd, 1) := by decide +kernel
theorem dL_law_679 : decode cL_law 679 = .ok (.iaload, 1) := by decide +kernel
theorem dL_law_680 : decode cL_law 680 = .ok (.invokevirtual 137, 3) := by decide +kernel
theorem dL_law_683 : decode cL_law 683 = .ok (.istore 7, 2) := by decide +kernel
theorem dL_law_685 : decode cL_law 685 = .ok (.aload_n 2, 1) := by decide +kernel
theorem dL_law_686 : decode cL_law 686 = .ok (.invokevirtual 97, 3) := by decide +kernel
theorem dL_law_689 : decode cL_law 689 = .ok (.iload 6, 2) := by decide +kernel
theorem dL_law_691 : decode cL_law 691 = .ok (.if_icmp .eq 5, 3) := by decide +kernel
theorem dL_law_694 : decode cL_law 694 = .ok (.iconst 0, 1) := by decide +kernel
theorem dL_law_695 : decode cL_law 695 = .ok (.ireturn, 1) := by decide +kernel
theorem dL_law_696 : decode cL_law 696 = .ok (.iload 6, 2) := by decide +kernel
theorem dL_law_698 : decode cL_law 698 = .ok (.ifCond .ne 15, 3) := by decide +kernel
theorem dL_law_701 : decode cL_law 701 = .ok (.aload_n 3, 1) := by decide +kernel
theorem dL_law_702 : decode cL_law 702 = .ok (.iconst 0, 1) := by decide +kernel
theorem dL_law_703 : decode cL_law 703 = .ok (.laload, 1) := by decide +kernel
theorem dL_law_704 : decode cL_law 704 = .ok (.iload 7, 2) := by decide +kernel
theorem dL_law_706 : decode cL_law 706 = .ok (.i2l, 1) := by decide +kernel
theorem dL_law_707 : decode cL_law 707 = .ok (.lcmp, 1) := by decide +kernel
theorem dL_law_708 : decode cL_law 708 = .ok (.ifCond .eq 5, 3) := by decide +kernel
theorem dL_law_711 : decode cL_law 711 = .ok (.iconst 0, 1) := by decide +kernel
theorem dL_law_712 : decode cL_law 712 = .ok (.ireturn, 1) := by decide +kernel
theorem dL_law_713 : decode cL_law 713 = .ok (.goto 789, 3) := by decide +kernel
theorem dL_law_716 : decode cL_law 716 = .ok (.aload_n 1, 1) := by decide +kernel
theorem dL_law_717 : decode cL_law 717 = .ok (.aload_n 3, 1) := by decide +kernel
theorem dL_law_718 : decode cL_law 718 = .ok (.invokestatic 138, 3) := by decide +kernel
theorem dL_law_721 : decode cL_law 721 = .ok (.istore 6, 2) := by decide +kernel
theorem dL_law_723 : decode cL_law 723 = .ok (.aload_n 2, 1) := by decide +kernel
theorem dL_law_724 : decode cL_law 724 = .ok (.invokevirtual 141, 3) := by decide +kernel
theorem dL_law_727 : decode cL_law 727 = .ok (.istore 7, 2) := by decide +kernel
theorem dL_law_729 : decode cL_law 729 = .ok (.aload_n 2, 1) := by decide +kernel
theorem dL_law_730 : decode cL_law 730 = .ok (.invokevirtual 97, 3) := by decide +kernel
theorem dL_law_733 : decode cL_law 733 = .ok (.iload 6, 2) := by decide +kernel
theorem dL_law_735 : decode cL_law 735 = .ok (.if_icmp .eq 5, 3) := by decide +kernel
theorem dL_law_738 : decode cL_law 738 = .ok (.iconst 0, 1) := by decide +kernel
theorem dL_law_739 : decode cL_law 739 = .ok (.ireturn, 1) := by decide +kernel
theorem dL_law_740 : decode cL_law 740 = .ok (.iload 6, 2) := by decide +kernel
theorem dL_law_742 : decode cL_law 742 = .ok (.ifCond .ne 15, 3) := by decide +kernel
theorem dL_law_745 : decode cL_law 745 = .ok (.aload_n 3, 1) := by decide +kernel
theorem dL_law_746 : decode cL_law 746 = .ok (.iconst 0, 1) := by decide +kernel
theorem dL_law_747 : decode cL_law 747 = .ok (.laload, 1) := by decide +kernel
theorem dL_law_748 : decode cL_law 748 = .ok (.iload 7, 2) := by decide +kernel
theorem dL_law_750 : decode cL_law 750 = .ok (.i2l, 1) := by decide +kernel
theorem dL_law_751 : decode cL_law 751 = .ok (.lcmp, 1) := by decide +kernel
theorem dL_law_752 : decode cL_law 752 = .ok (.ifCond .eq 5, 3) := by decide +kernel
theorem dL_law_755 : decode cL_law 755 = .ok (.iconst 0, 1) := by decide +kernel
theorem dL_law_756 : decode cL_law 756 = .ok (.ireturn, 1) := by decide +kernel
theorem dL_law_757 : decode cL_law 757 = .ok (.goto 745, 3) := by decide +kernel
theorem dL_law_760 : decode cL_law 760 = .ok (.aload_n 1, 1) := by decide +kernel
theorem dL_law_761 : decode cL_law 761 = .ok (.invokevirtual 142, 3) := by decide +kernel
theorem dL_law_764 : decode cL_law 764 = .ok (.aload_n 2, 1) := by decide +kernel
theorem dL_law_765 : decode cL_law 765 = .ok (.invokevirtual 145, 3) := by decide +kernel
theorem dL_law_768 : decode cL_law 768 = .ok (.if_icmp .eq 734, 3) := by decide +kernel
theorem dL_law_771 : decode cL_law 771 = .ok (.iconst 0, 1) := by decide +kernel
theorem dL_law_772 : decode cL_law 772 = .ok (.ireturn, 1) := by decide +kernel
theorem dL_law_773 : decode cL_law 773 = .ok (.aload_n 1, 1) := by decide +kernel
theorem dL_law_774 : decode cL_law 774 = .ok (.aload_n 0, 1) := by decide +kernel
theorem dL_law_775 : decode cL_law 775 = .ok (.iload 5, 2) := by decide +kernel
theorem dL_law_777 : decode cL_law 777 = .ok (.iconst 1, 1) := by decide +kernel
theorem dL_law_778 : decode cL_law 778 = .ok (.iadd, 1) := by decide +kernel
theorem dL_law_779 : decode cL_law 779 = .ok (.iaload, 1) := by decide +kernel
theorem dL_law_780 : decode cL_law 780 = .ok (.aload_n 3, 1) := by decide +kernel
theorem dL_law_781 : decode cL_law 781 = .ok (.invokestatic 146, 3) := by decide +kernel
theorem dL_law_784 : decode cL_law 784 = .ok (.istore 6, 2) := by decide +kernel
theorem dL_law_786 : decode cL_law 786 = .ok (.aload_n 2, 1) := by decide +kernel
theorem dL_law_787 : decode cL_law 787 = .ok (.aload_n 0, 1) := by decide +kernel
theorem dL_law_788 : decode cL_law 788 = .ok (.iload 5, 2) := by decide +kernel
theorem dL_law_790 : decode cL_law 790 = .ok (.iconst 1, 1) := by decide +kernel
theorem dL_law_791 : decode cL_law 791 = .ok (.iadd, 1) := by decide +kernel
theorem dL_law_792 : decode cL_law 792 = .ok (.iaload, 1) := by decide +kernel
theorem dL_law_793 : decode cL_law 793 = .ok (.invokevirtual 148, 3) := by decide +kernel
theorem dL_law_796 : decode cL_law 796 = .ok (.istore 7, 2) := by decide +kernel
theorem dL_law_798 : decode cL_law 798 = .ok (.aload_n 2, 1) := by decide +kernel
theorem dL_law_799 : decode cL_law 799 = .ok (.invokevirtual 97, 3) := by decide +kernel
theorem dL_law_802 : decode cL_law 802 = .ok (.iload 6, 2) := by decide +kernel
theorem dL_law_804 : decode cL_law 804 = .ok (.if_icmp .eq 5, 3) := by decide +kernel
theorem dL_law_807 : decode cL_law 807 = .ok (.iconst 0, 1) := by decide +kernel
theorem dL_law_808 : decode cL_law 808 = .ok (.ireturn, 1) := by decide +kernel
theorem dL_law_809 : decode cL_law 809 = .ok (.iload 6, 2) := by decide +kernel
theorem dL_law_811 : decode cL_law 811 = .ok (.ifCond .ne 15, 3) := by decide +kernel
theorem dL_law_814 : decode cL_law 814 = .ok (.aload_n 3, 1) := by decide +kernel
theorem dL_law_815 : decode cL_law 815 = .ok (.iconst 0, 1) := by decide +kernel
theorem dL_law_816 : decode cL_law 816 = .ok (.laload, 1) := by decide +kernel
theorem dL_law_817 : decode cL_law 817 = .ok (.iload 7, 2) := by decide +kernel
theorem dL_law_819 : decode cL_law 819 = .ok (.i2l, 1) := by decide +kernel
theorem dL_law_820 : decode cL_law 820 = .ok (.lcmp, 1) := by decide +kernel
theorem dL_law_821 : decode cL_law 821 = .ok (.ifCond .eq 5, 3) := by decide +kernel
theorem dL_law_824 : decode cL_law 824 = .ok (.iconst 0, 1) := by decide +kernel
theorem dL_law_825 : decode cL_law 825 = .ok (.ireturn, 1) := by decide +kernel
theorem dL_law_826 : decode cL_law 826 = .ok (.goto 676, 3) := by decide +kernel
theorem dL_law_829 : decode cL_law 829 = .ok (.aload_n 1, 1) := by decide +kernel
theorem dL_law_830 : decode cL_law 830 = .ok (.aload_n 0, 1) := by decide +kernel
theorem dL_law_831 : decode cL_law 831 = .ok (.iload 5, 2) := by decide +kernel
theorem dL_law_833 : decode cL_law 833 = .ok (.iconst 1, 1) := by decide +kernel
theorem dL_law_834 : decode cL_law 834 = .ok (.iadd, 1) := by decide +kernel
theorem dL_law_835 : decode cL_law 835 = .ok (.iaload, 1) := by decide +kernel
theorem dL_law_836 : decode cL_law 836 = .ok (.aload_n 3, 1) := by decide +kernel
theorem dL_law_837 : decode cL_law 837 = .ok (.invokestatic 149, 3) := by decide +kernel
theorem dL_law_840 : decode cL_law 840 = .ok (.istore 6, 2) := by decide +kernel
theorem dL_law_842 : decode cL_law 842 = .ok (.aload_n 2, 1) := by decide +kernel
theorem dL_law_843 : decode cL_law 843 = .ok (.aload_n 0, 1) := by decide +kernel
theorem dL_law_844 : decode cL_law 844 = .ok (.iload 5, 2) := by decide +kernel
theorem dL_law_846 : decode cL_law 846 = .ok (.iconst 1, 1) := by decide +kernel
theorem dL_law_847 : decode cL_law 847 = .ok (.iadd, 1) := by decide +kernel
theorem dL_law_848 : decode cL_law 848 = .ok (.iaload, 1) := by decide +kernel
theorem dL_law_849 : decode cL_law 849 = .ok (.invokevirtual 151, 3) := by decide +kernel
theorem dL_law_852 : decode cL_law 852 = .ok (.istore 7, 2) := by decide +kernel
theorem dL_law_854 : decode cL_law 854 = .ok (.aload_n 2, 1) := by decide +kernel
theorem dL_law_855 : decode cL_law 855 = .ok (.invokevirtual 97, 3) := by decide +kernel
theorem dL_law_858 : decode cL_law 858 = .ok (.iload 6, 2) := by decide +kernel
theorem dL_law_860 : decode cL_law 860 = .ok (.if_icmp .eq 5, 3) := by decide +kernel
theorem dL_law_863 : decode cL_law 863 = .ok (.iconst 0, 1) := by decide +kernel
theorem dL_law_864 : decode cL_law 864 = .ok (.ireturn, 1) := by decide +kernel
theorem dL_law_865 : decode cL_law 865 = .ok (.iload 6, 2) := by decide +kernel
theorem dL_law_867 : decode cL_law 867 = .ok (.ifCond .ne 15, 3) := by decide +kernel
theorem dL_law_870 : decode cL_law 870 = .ok (.aload_n 3, 1) := by decide +kernel
theorem dL_law_871 : decode cL_law 871 = .ok (.iconst 0, 1) := by decide +kernel
theorem dL_law_872 : decode cL_law 872 = .ok (.laload, 1) := by decide +kernel
theorem dL_law_873 : decode cL_law 873 = .ok (.iload 7, 2) := by decide +kernel
theorem dL_law_875 : decode cL_law 875 = .ok (.i2l, 1) := by decide +kernel
theorem dL_law_876 : decode cL_law 876 = .ok (.lcmp, 1) := by decide +kernel
theorem dL_law_877 : decode cL_law 877 = .ok (.ifCond .eq 5, 3) := by decide +kernel
theorem dL_law_880 : decode cL_law 880 = .ok (.iconst 0, 1) := by decide +kernel
theorem dL_law_881 : decode cL_law 881 = .ok (.ireturn, 1) := by decide +kernel
theorem dL_law_882 : decode cL_law 882 = .ok (.goto 620, 3) := by decide +kernel
theorem dL_law_885 : decode cL_law 885 = .ok (.aload_n 1, 1) := by decide +kernel
theorem dL_law_886 : decode cL_law 886 = .ok (.aload_n 0, 1) := by decide +kernel
theorem dL_law_887 : decode cL_law 887 = .ok (.iload 5, 2) := by decide +kernel
theorem dL_law_889 : decode cL_law 889 = .ok (.iconst 1, 1) := by decide +kernel
theorem dL_law_890 : decode cL_law 890 = .ok (.iadd, 1) := by decide +kernel
theorem dL_law_891 : decode cL_law 891 = .ok (.iaload, 1) := by decide +kernel
theorem dL_law_892 : decode cL_law 892 = .ok (.aload_n 3, 1) := by decide +kernel
theorem dL_law_893 : decode cL_law 893 = .ok (.invokestatic 152, 3) := by decide +kernel
theorem dL_law_896 : decode cL_law 896 = .ok (.istore 6, 2) := by decide +kernel
theorem dL_law_898 : decode cL_law 898 = .ok (.aload_n 2, 1) := by decide +kernel
theorem dL_law_899 : decode cL_law 899 = .ok (.aload_n 0, 1) := by decide +kernel
theorem dL_law_900 : decode cL_law 900 = .ok (.iload 5, 2) := by decide +kernel
theorem dL_law_902 : decode cL_law 902 = .ok (.iconst 1, 1) := by decide +kernel
theorem dL_law_903 : decode cL_law 903 = .ok (.iadd, 1) := by decide +kernel
theorem dL_law_904 : decode cL_law 904 = .ok (.iaload, 1) := by decide +kernel
theorem dL_law_905 : decode cL_law 905 = .ok (.invokevirtual 154, 3) := by decide +kernel
theorem dL_law_908 : decode cL_law 908 = .ok (.istore 7, 2) := by decide +kernel
theorem dL_law_910 : decode cL_law 910 = .ok (.aload_n 2, 1) := by decide +kernel
theorem dL_law_911 : decode cL_law 911 = .ok (.invokevirtual 97, 3) := by decide +kernel
theorem dL_law_914 : decode cL_law 914 = .ok (.iload 6, 2) := by decide +kernel
theorem dL_law_916 : decode cL_law 916 = .ok (.if_icmp .eq 5, 3) := by decide +kernel
theorem dL_law_919 : decode cL_law 919 = .ok (.iconst 0, 1) := by decide +kernel
theorem dL_law_920 : decode cL_law 920 = .ok (.ireturn, 1) := by decide +kernel
theorem dL_law_921 : decode cL_law 921 = .ok (.iload 6, 2) := by decide +kernel
theorem dL_law_923 : decode cL_law 923 = .ok (.ifCond .ne 15, 3) := by decide +kernel
theorem dL_law_926 : decode cL_law 926 = .ok (.aload_n 3, 1) := by decide +kernel
theorem dL_law_927 : decode cL_law 927 = .ok (.iconst 0, 1) := by decide +kernel
theorem dL_law_928 : decode cL_law 928 = .ok (.laload, 1) := by decide +kernel
theorem dL_law_929 : decode cL_law 929 = .ok (.iload 7, 2) := by decide +kernel
theorem dL_law_931 : decode cL_law 931 = .ok (.i2l, 1) := by decide +kernel
theorem dL_law_932 : decode cL_law 932 = .ok (.lcmp, 1) := by decide +kernel
theorem dL_law_933 : decode cL_law 933 = .ok (.ifCond .eq 5, 3) := by decide +kernel
theorem dL_law_936 : decode cL_law 936 = .ok (.iconst 0, 1) := by decide +kernel
theorem dL_law_937 : decode cL_law 937 = .ok (.ireturn, 1) := by decide +kernel
theorem dL_law_938 : decode cL_law 938 = .ok (.goto 564, 3) := by decide +kernel
theorem dL_law_941 : decode cL_law 941 = .ok (.aload_n 1, 1) := by decide +kernel
theorem dL_law_942 : decode cL_law 942 = .ok (.aload_n 0, 1) := by decide +kernel
theorem dL_law_943 : decode cL_law 943 = .ok (.iload 5, 2) := by decide +kernel
theorem dL_law_945 : decode cL_law 945 = .ok (.iconst 1, 1) := by decide +kernel
theorem dL_law_946 : decode cL_law 946 = .ok (.iadd, 1) := by decide +kernel
theorem dL_law_947 : decode cL_law 947 = .ok (.iaload, 1) := by decide +kernel
theorem dL_law_948 : decode cL_law 948 = .ok (.aload_n 3, 1) := by decide +kernel
theorem dL_law_949 : decode cL_law 949 = .ok (.invokestatic 155, 3) := by decide +kernel
theorem dL_law_952 : decode cL_law 952 = .ok (.istore 6, 2) := by decide +kernel
theorem dL_law_954 : decode cL_law 954 = .ok (.aload_n 2, 1) := by decide +kernel
theorem dL_law_955 : decode cL_law 955 = .ok (.aload_n 0, 1) := by decide +kernel
theorem dL_law_956 : decode cL_law 956 = .ok (.iload 5, 2) := by decide +kernel
theorem dL_law_958 : decode cL_law 958 = .ok (.iconst 1, 1) := by decide +kernel
theorem dL_law_959 : decode cL_law 959 = .ok (.iadd, 1) := by decide +kernel
theorem dL_law_960 : decode cL_law 960 = .ok (.iaload, 1) := by decide +kernel
theorem dL_law_961 : decode cL_law 961 = .ok (.invokevirtual 157, 3) := by decide +kernel
theorem dL_law_964 : decode cL_law 964 = .ok (.istore 7, 2) := by decide +kernel
theorem dL_law_966 : decode cL_law 966 = .ok (.aload_n 2, 1) := by decide +kernel
theorem dL_law_967 : decode cL_law 967 = .ok (.invokevirtual 97, 3) := by decide +kernel
theorem dL_law_970 : decode cL_law 970 = .ok (.iload 6, 2) := by decide +kernel
theorem dL_law_972 : decode cL_law 972 = .ok (.if_icmp .eq 5, 3) := by decide +kernel
theorem dL_law_975 : decode cL_law 975 = .ok (.iconst 0, 1) := by decide +kernel
theorem dL_law_976 : decode cL_law 976 = .ok (.ireturn, 1) := by decide +kernel
theorem dL_law_977 : decode cL_law 977 = .ok (.iload 6, 2) := by decide +kernel
theorem dL_law_979 : decode cL_law 979 = .ok (.ifCond .ne 22, 3) := by decide +kernel
theorem dL_law_982 : decode cL_law 982 = .ok (.aload_n 3, 1) := by decide +kernel
theorem dL_law_983 : decode cL_law 983 = .ok (.iconst 0, 1) := by decide +kernel
theorem dL_law_984 : decode cL_law 984 = .ok (.laload, 1) := by decide +kernel
theorem dL_law_985 : decode cL_law 985 = .ok (.iload 7, 2) := by decide +kernel
theorem dL_law_987 : decode cL_law 987 = .ok (.ifCond .eq 7, 3) := by decide +kernel
theorem dL_law_990 : decode cL_law 990 = .ok (.lconst 1, 1) := by decide +kernel
theorem dL_law_991 : decode cL_law 991 = .ok (.goto 4, 3) := by decide +kernel
theorem dL_law_994 : decode cL_law 994 = .ok (.lconst 0, 1) := by decide +kernel
theorem dL_law_995 : decode cL_law 995 = .ok (.lcmp, 1) := by decide +kernel
theorem dL_law_996 : decode cL_law 996 = .ok (.ifCond .eq 5, 3) := by decide +kernel
theorem dL_law_999 : decode cL_law 999 = .ok (.iconst 0, 1) := by decide +kernel
theorem dL_law_1000 : decode cL_law 1000 = .ok (.ireturn, 1) := by decide +kernel
theorem dL_law_1001 : decode cL_law 1001 = .ok (.goto 501, 3) := by decide +kernel
theorem dL_law_1004 : decode cL_law 1004 = .ok (.aload_n 1, 1) := by decide +kernel
theorem dL_law_1005 : decode cL_law 1005 = .ok (.aload_n 0, 1) := by decide +kernel
theorem dL_law_1006 : decode cL_law 1006 = .ok (.iload 5, 2) := by decide +kernel
theorem dL_law_1008 : decode cL_law 1008 = .ok (.iconst 1, 1) := by decide +kernel
theorem dL_law_1009 : decode cL_law 1009 = .ok (.iadd, 1) := by decide +kernel
theorem dL_law_1010 : decode cL_law 1010 = .ok (.iaload, 1) := by decide +kernel
theorem dL_law_1011 : decode cL_law 1011 = .ok (.aload_n 3, 1) := by decide +kernel
theorem dL_law_1012 : decode cL_law 1012 = .ok (.invokestatic 158, 3) := by decide +kernel
theorem dL_law_1015 : decode cL_law 1015 = .ok (.istore 6, 2) := by decide +kernel
theorem dL_law_1017 : decode cL_law 1017 = .ok (.aload_n 2, 1) := by decide +kernel
theorem dL_law_1018 : decode cL_law 1018 = .ok (.aload_n 0, 1) := by decide +kernel
theorem dL_law_1019 : decode cL_law 1019 = .ok (.iload 5, 2) := by decide +kernel
theorem dL_law_1021 : decode cL_law 1021 = .ok (.iconst 1, 1) := by decide +kernel
theorem dL_law_1022 : decode cL_law 1022 = .ok (.iadd, 1) := by decide +kernel
theorem dL_law_1023 : decode cL_law 1023 = .ok (.iaload, 1) := by decide +kernel
theorem dL_law_1024 : decode cL_law 1024 = .ok (.invokevirtual 160, 3) := by decide +kernel
theorem dL_law_1027 : decode cL_law 1027 = .ok (.istore 7, 2) := by decide +kernel
theorem dL_law_1029 : decode cL_law 1029 = .ok (.aload_n 2, 1) := by decide +kernel
theorem dL_law_1030 : decode cL_law 1030 = .ok (.invokevirtual 97, 3) := by decide +kernel
theorem dL_law_1033 : decode cL_law 1033 = .ok (.iload 6, 2) := by decide +kernel
theorem dL_law_1035 : decode cL_law 1035 = .ok (.if_icmp .eq 5, 3) := by decide +kernel
theorem dL_law_1038 : decode cL_law 1038 = .ok (.iconst 0, 1) := by decide +kernel
theorem dL_law_1039 : decode cL_law 1039 = .ok (.ireturn, 1) := by decide +kernel
theorem dL_law_1040 : decode cL_law 1040 = .ok (.iload 6, 2) := by decide +kernel
theorem dL_law_1042 : decode cL_law 1042 = .ok (.ifCond .ne 22, 3) := by decide +kernel
theorem dL_law_1045 : decode cL_law 1045 = .ok (.aload_n 3, 1) := by decide +kernel
theorem dL_law_1046 : decode cL_law 1046 = .ok (.iconst 0, 1) := by decide +kernel
theorem dL_law_1047 : decode cL_law 1047 = .ok (.laload, 1) := by decide +kernel
theorem dL_law_1048 : decode cL_law 1048 = .ok (.iload 7, 2) := by decide +kernel
theorem dL_law_1050 : decode cL_law 1050 = .ok (.ifCond .eq 7, 3) := by decide +kernel
theorem dL_law_1053 : decode cL_law 1053 = .ok (.lconst 1, 1) := by decide +kernel
theorem dL_law_1054 : decode cL_law 1054 = .ok (.goto 4, 3) := by decide +kernel
theorem dL_law_1057 : decode cL_law 1057 = .ok (.lconst 0, 1) := by decide +kernel
theorem dL_law_1058 : decode cL_law 1058 = .ok (.lcmp, 1) := by decide +kernel
theorem dL_law_1059 : decode cL_law 1059 = .ok (.ifCond .eq 5, 3) := by decide +kernel
theorem dL_law_1062 : decode cL_law 1062 = .ok (.iconst 0, 1) := by decide +kernel
theorem dL_law_1063 : decode cL_law 1063 = .ok (.ireturn, 1) := by decide +kernel
theorem dL_law_1064 : decode cL_law 1064 = .ok (.goto 438, 3) := by decide +kernel
theorem dL_law_1067 : decode cL_law 1067 = .ok (.aload_n 1, 1) := by decide +kernel
theorem dL_law_1068 : decode cL_law 1068 = .ok (.aload_n 0, 1) := by decide +kernel
theorem dL_law_1069 : decode cL_law 1069 = .ok (.iload 5, 2) := by decide +kernel
theorem dL_law_1071 : decode cL_law 1071 = .ok (.iconst 1, 1) := by decide +kernel
theorem dL_law_1072 : decode cL_law 1072 = .ok (.iadd, 1) := by decide +kernel
theorem dL_law_1073 : decode cL_law 1073 = .ok (.iaload, 1) := by decide +kernel
theorem dL_law_1074 : decode cL_law 1074 = .ok (.aload_n 0, 1) := by decide +kernel
theorem dL_law_1075 : decode cL_law 1075 = .ok (.iload 5, 2) := by decide +kernel
theorem dL_law_1077 : decode cL_law 1077 = .ok (.iconst 2, 1) := by decide +kernel
theorem dL_law_1078 : decode cL_law 1078 = .ok (.iadd, 1) := by decide +kernel
theorem dL_law_1079 : decode cL_law 1079 = .ok (.iaload, 1) := by decide +kernel
theorem dL_law_1080 : decode cL_law 1080 = .ok (.aload_n 3, 1) := by decide +kernel
theorem dL_law_1081 : decode cL_law 1081 = .ok (.invokestatic 161, 3) := by decide +kernel
theorem dL_law_1084 : decode cL_law 1084 = .ok (.istore 6, 2) := by decide +kernel
theorem dL_law_1086 : decode cL_law 1086 = .ok (.aload_n 2, 1) := by decide +kernel
theorem dL_law_1087 : decode cL_law 1087 = .ok (.aload_n 0, 1) := by decide +kernel
theorem dL_law_1088 : decode cL_law 1088 = .ok (.iload 5, 2) := by decide +kernel
theorem dL_law_1090 : decode cL_law 1090 = .ok (.iconst 1, 1) := by decide +kernel
theorem dL_law_1091 : decode cL_law 1091 = .ok (.iadd, 1) := by decide +kernel
theorem dL_law_1092 : decode cL_law 1092 = .ok (.iaload, 1) := by decide +kernel
theorem dL_law_1093 : decode cL_law 1093 = .ok (.aload_n 0, 1) := by decide +kernel
theorem dL_law_1094 : decode cL_law 1094 = .ok (.iload 5, 2) := by decide +kernel
theorem dL_law_1096 : decode cL_law 1096 = .ok (.iconst 2, 1) := by decide +kernel
theorem dL_law_1097 : decode cL_law 1097 = .ok (.iadd, 1) := by decide +kernel
theorem dL_law_1098 : decode cL_law 1098 = .ok (.iaload, 1) := by decide +kernel
theorem dL_law_1099 : decode cL_law 1099 = .ok (.invokevirtual 163, 3) := by decide +kernel
theorem dL_law_1102 : decode cL_law 1102 = .ok (.istore 7, 2) := by decide +kernel
theorem dL_law_1104 : decode cL_law 1104 = .ok (.aload_n 2, 1) := by decide +kernel
theorem dL_law_1105 : decode cL_law 1105 = .ok (.invokevirtual 97, 3) := by decide +kernel
theorem dL_law_1108 : decode cL_law 1108 = .ok (.iload 6, 2) := by decide +kernel
theorem dL_law_1110 : decode cL_law 1110 = .ok (.if_icmp .eq 5, 3) := by decide +kernel
theorem dL_law_1113 : decode cL_law 1113 = .ok (.iconst 0, 1) := by decide +kernel
theorem dL_law_1114 : decode cL_law 1114 = .ok (.ireturn, 1) := by decide +kernel
theorem dL_law_1115 : decode cL_law 1115 = .ok (.iload 6, 2) := by decide +kernel
theorem dL_law_1117 : decode cL_law 1117 = .ok (.ifCond .ne 15, 3) := by decide +kernel
theorem dL_law_1120 : decode cL_law 1120 = .ok (.aload_n 3, 1) := by decide +kernel
theorem dL_law_1121 : decode cL_law 1121 = .ok (.iconst 0, 1) := by decide +kernel
theorem dL_law_1122 : decode cL_law 1122 = .ok (.laload, 1) := by decide +kernel
theorem dL_law_1123 : decode cL_law 1123 = .ok (.iload 7, 2) := by decide +kernel
theorem dL_law_1125 : decode cL_law 1125 = .ok (.i2l, 1) := by decide +kernel
theorem dL_law_1126 : decode cL_law 1126 = .ok (.lcmp, 1) := by decide +kernel
theorem dL_law_1127 : decode cL_law 1127 = .ok (.ifCond .eq 5, 3) := by decide +kernel
theorem dL_law_1130 : decode cL_law 1130 = .ok (.iconst 0, 1) := by decide +kernel
theorem dL_law_1131 : decode cL_law 1131 = .ok (.ireturn, 1) := by decide +kernel
theorem dL_law_1132 : decode cL_law 1132 = .ok (.goto 370, 3) := by decide +kernel
theorem dL_law_1135 : decode cL_law 1135 = .ok (.aload_n 1, 1) := by decide +kernel
theorem dL_law_1136 : decode cL_law 1136 = .ok (.aload_n 0, 1) := by decide +kernel
theorem dL_law_1137 : decode cL_law 1137 = .ok (.iload 5, 2) := by decide +kernel
theorem dL_law_1139 : decode cL_law 1139 = .ok (.iconst 1, 1) := by decide +kernel
theorem dL_law_1140 : decode cL_law 1140 = .ok (.iadd, 1) := by decide +kernel
theorem dL_law_1141 : decode cL_law 1141 = .ok (.iaload, 1) := by decide +kernel
theorem dL_law_1142 : decode cL_law 1142 = .ok (.aload_n 3, 1) := by decide +kernel
theorem dL_law_1143 : decode cL_law 1143 = .ok (.invokestatic 164, 3) := by decide +kernel
theorem dL_law_1146 : decode cL_law 1146 = .ok (.istore 6, 2) := by decide +kernel
theorem dL_law_1148 : decode cL_law 1148 = .ok (.aload_n 2, 1) := by decide +kernel
theorem dL_law_1149 : decode cL_law 1149 = .ok (.aload_n 0, 1) := by decide +kernel
theorem dL_law_1150 : decode cL_law 1150 = .ok (.iload 5, 2) := by decide +kernel
theorem dL_law_1152 : decode cL_law 1152 = .ok (.iconst 1, 1) := by decide +kernel
theorem dL_law_1153 : decode cL_law 1153 = .ok (.iadd, 1) := by decide +kernel
theorem dL_law_1154 : decode cL_law 1154 = .ok (.iaload, 1) := by decide +kernel
theorem dL_law_1155 : decode cL_law 1155 = .ok (.invokevirtual 166, 3) := by decide +kernel
theorem dL_law_1158 : decode cL_law 1158 = .ok (.istore 7, 2) := by decide +kernel
theorem dL_law_1160 : decode cL_law 1160 = .ok (.aload_n 2, 1) := by decide +kernel
theorem dL_law_1161 : decode cL_law 1161 = .ok (.invokevirtual 97, 3) := by decide +kernel
theorem dL_law_1164 : decode cL_law 1164 = .ok (.iload 6, 2) := by decide +kernel
theorem dL_law_1166 : decode cL_law 1166 = .ok (.if_icmp .eq 5, 3) := by decide +kernel
theorem dL_law_1169 : decode cL_law 1169 = .ok (.iconst 0, 1) := by decide +kernel
theorem dL_law_1170 : decode cL_law 1170 = .ok (.ireturn, 1) := by decide +kernel
theorem dL_law_1171 : decode cL_law 1171 = .ok (.iload 6, 2) := by decide +kernel
theorem dL_law_1173 : decode cL_law 1173 = .ok (.ifCond .ne 15, 3) := by decide +kernel
theorem dL_law_1176 : decode cL_law 1176 = .ok (.aload_n 3, 1) := by decide +kernel
theorem dL_law_1177 : decode cL_law 1177 = .ok (.iconst 0, 1) := by decide +kernel
theorem dL_law_1178 : decode cL_law 1178 = .ok (.laload, 1) := by decide +kernel
theorem dL_law_1179 : decode cL_law 1179 = .ok (.iload 7, 2) := by decide +kernel
theorem dL_law_1181 : decode cL_law 1181 = .ok (.i2l, 1) := by decide +kernel
theorem dL_law_1182 : decode cL_law 1182 = .ok (.lcmp, 1) := by decide +kernel
theorem dL_law_1183 : decode cL_law 1183 = .ok (.ifCond .eq 5, 3) := by decide +kernel
theorem dL_law_1186 : decode cL_law 1186 = .ok (.iconst 0, 1) := by decide +kernel
theorem dL_law_1187 : decode cL_law 1187 = .ok (.ireturn, 1) := by decide +kernel
theorem dL_law_1188 : decode cL_law 1188 = .ok (.goto 314, 3) := by decide +kernel
theorem dL_law_1191 : decode cL_law 1191 = .ok (.aload_n 1, 1) := by decide +kernel
theorem dL_law_1192 : decode cL_law 1192 = .ok (.aload_n 0, 1) := by decide +kernel
theorem dL_law_1193 : decode cL_law 1193 = .ok (.iload 5, 2) := by decide +kernel
theorem dL_law_1195 : decode cL_law 1195 = .ok (.iconst 1, 1) := by decide +kernel
theorem dL_law_1196 : decode cL_law 1196 = .ok (.iadd, 1) := by decide +kernel
theorem dL_law_1197 : decode cL_law 1197 = .ok (.iaload, 1) := by decide +kernel
theorem dL_law_1198 : decode cL_law 1198 = .ok (.aload_n 3, 1) := by decide +kernel
theorem dL_law_1199 : decode cL_law 1199 = .ok (.invokestatic 167, 3) := by decide +kernel
theorem dL_law_1202 : decode cL_law 1202 = .ok (.istore 6, 2) := by decide +kernel
theorem dL_law_1204 : decode cL_law 1204 = .ok (.aload_n 2, 1) := by decide +kernel
theorem dL_law_1205 : decode cL_law 1205 = .ok (.aload_n 0, 1) := by decide +kernel
theorem dL_law_1206 : decode cL_law 1206 = .ok (.iload 5, 2) := by decide +kernel
theorem dL_law_1208 : decode cL_law 1208 = .ok (.iconst 1, 1) := by decide +kernel
theorem dL_law_1209 : decode cL_law 1209 = .ok (.iadd, 1) := by decide +kernel
theorem dL_law_1210 : decode cL_law 1210 = .ok (.iaload, 1) := by decide +kernel
theorem dL_law_1211 : decode cL_law 1211 = .ok (.invokevirtual 169, 3) := by decide +kernel
theorem dL_law_1214 : decode cL_law 1214 = .ok (.istore 7, 2) := by decide +kernel
theorem dL_law_1216 : decode cL_law 1216 = .ok (.aload_n 2, 1) := by decide +kernel
theorem dL_law_1217 : decode cL_law 1217 = .ok (.invokevirtual 97, 3) := by decide +kernel
theorem dL_law_1220 : decode cL_law 1220 = .ok (.iload 6, 2) := by decide +kernel
theorem dL_law_1222 : decode cL_law 1222 = .ok (.if_icmp .eq 5, 3) := by decide +kernel
theorem dL_law_1225 : decode cL_law 1225 = .ok (.iconst 0, 1) := by decide +kernel
theorem dL_law_1226 : decode cL_law 1226 = .ok (.ireturn, 1) := by decide +kernel
theorem dL_law_1227 : decode cL_law 1227 = .ok (.iload 6, 2) := by decide +kernel
theorem dL_law_1229 : decode cL_law 1229 = .ok (.ifCond .ne 15, 3) := by decide +kernel
theorem dL_law_1232 : decode cL_law 1232 = .ok (.aload_n 3, 1) := by decide +kernel
theorem dL_law_1233 : decode cL_law 1233 = .ok (.iconst 0, 1) := by decide +kernel
theorem dL_law_1234 : decode cL_law 1234 = .ok (.laload, 1) := by decide +kernel
theorem dL_law_1235 : decode cL_law 1235 = .ok (.iload 7, 2) := by decide +kernel
theorem dL_law_1237 : decode cL_law 1237 = .ok (.i2l, 1) := by decide +kernel
theorem dL_law_1238 : decode cL_law 1238 = .ok (.lcmp, 1) := by decide +kernel
theorem dL_law_1239 : decode cL_law 1239 = .ok (.ifCond .eq 5, 3) := by decide +kernel
theorem dL_law_1242 : decode cL_law 1242 = .ok (.iconst 0, 1) := by decide +kernel
theorem dL_law_1243 : decode cL_law 1243 = .ok (.ireturn, 1) := by decide +kernel
theorem dL_law_1244 : decode cL_law 1244 = .ok (.goto 258, 3) := by decide +kernel
theorem dL_law_1247 : decode cL_law 1247 = .ok (.aload_n 1, 1) := by decide +kernel
theorem dL_law_1248 : decode cL_law 1248 = .ok (.aload_n 0, 1) := by decide +kernel
theorem dL_law_1249 : decode cL_law 1249 = .ok (.iload 5, 2) := by decide +kernel
theorem dL_law_1251 : decode cL_law 1251 = .ok (.iconst 1, 1) := by decide +kernel
theorem dL_law_1252 : decode cL_law 1252 = .ok (.iadd, 1) := by decide +kernel
theorem dL_law_1253 : decode cL_law 1253 = .ok (.iaload, 1) := by decide +kernel
theorem dL_law_1254 : decode cL_law 1254 = .ok (.aload_n 3, 1) := by decide +kernel
theorem dL_law_1255 : decode cL_law 1255 = .ok (.invokestatic 170, 3) := by decide +kernel
theorem dL_law_1258 : decode cL_law 1258 = .ok (.istore 6, 2) := by decide +kernel
theorem dL_law_1260 : decode cL_law 1260 = .ok (.aload_n 2, 1) := by decide +kernel
theorem dL_law_1261 : decode cL_law 1261 = .ok (.aload_n 0, 1) := by decide +kernel
theorem dL_law_1262 : decode cL_law 1262 = .ok (.iload 5, 2) := by decide +kernel
theorem dL_law_1264 : decode cL_law 1264 = .ok (.iconst 1, 1) := by decide +kernel
theorem dL_law_1265 : decode cL_law 1265 = .ok (.iadd, 1) := by decide +kernel
theorem dL_law_1266 : decode cL_law 1266 = .ok (.iaload, 1) := by decide +kernel
theorem dL_law_1267 : decode cL_law 1267 = .ok (.invokevirtual 172, 3) := by decide +kernel
theorem dL_law_1270 : decode cL_law 1270 = .ok (.istore 7, 2) := by decide +kernel
theorem dL_law_1272 : decode cL_law 1272 = .ok (.aload_n 2, 1) := by decide +kernel
theorem dL_law_1273 : decode cL_law 1273 = .ok (.invokevirtual 97, 3) := by decide +kernel
theorem dL_law_1276 : decode cL_law 1276 = .ok (.iload 6, 2) := by decide +kernel
theorem dL_law_1278 : decode cL_law 1278 = .ok (.if_icmp .eq 5, 3) := by decide +kernel
theorem dL_law_1281 : decode cL_law 1281 = .ok (.iconst 0, 1) := by decide +kernel
theorem dL_law_1282 : decode cL_law 1282 = .ok (.ireturn, 1) := by decide +kernel
theorem dL_law_1283 : decode cL_law 1283 = .ok (.iload 6, 2) := by decide +kernel
theorem dL_law_1285 : decode cL_law 1285 = .ok (.ifCond .ne 15, 3) := by decide +kernel
theorem dL_law_1288 : decode cL_law 1288 = .ok (.aload_n 3, 1) := by decide +kernel
theorem dL_law_1289 : decode cL_law 1289 = .ok (.iconst 0, 1) := by decide +kernel
theorem dL_law_1290 : decode cL_law 1290 = .ok (.laload, 1) := by decide +kernel
theorem dL_law_1291 : decode cL_law 1291 = .ok (.iload 7, 2) := by decide +kernel
theorem dL_law_1293 : decode cL_law 1293 = .ok (.i2l, 1) := by decide +kernel
theorem dL_law_1294 : decode cL_law 1294 = .ok (.lcmp, 1) := by decide +kernel
theorem dL_law_1295 : decode cL_law 1295 = .ok (.ifCond .eq 5, 3) := by decide +kernel
theorem dL_law_1298 : decode cL_law 1298 = .ok (.iconst 0, 1) := by decide +kernel
theorem dL_law_1299 : decode cL_law 1299 = .ok (.ireturn, 1) := by decide +kernel
theorem dL_law_1300 : decode cL_law 1300 = .ok (.goto 202, 3) := by decide +kernel
theorem dL_law_1303 : decode cL_law 1303 = .ok (.aload_n 1, 1) := by decide +kernel
theorem dL_law_1304 : decode cL_law 1304 = .ok (.invokevirtual 173, 3) := by decide +kernel
theorem dL_law_1307 : decode cL_law 1307 = .ok (.aload_n 2, 1) := by decide +kernel
theorem dL_law_1308 : decode cL_law 1308 = .ok (.invokevirtual 177, 3) := by decide +kernel
theorem dL_law_1311 : decode cL_law 1311 = .ok (.lcmp, 1) := by decide +kernel
theorem dL_law_1312 : decode cL_law 1312 = .ok (.ifCond .eq 190, 3) := by decide +kernel
theorem dL_law_1315 : decode cL_law 1315 = .ok (.iconst 0, 1) := by decide +kernel
theorem dL_law_1316 : decode cL_law 1316 = .ok (.ireturn, 1) := by decide +kernel
theorem dL_law_1317 : decode cL_law 1317 = .ok (.aload_n 1, 1) := by decide +kernel
theorem dL_law_1318 : decode cL_law 1318 = .ok (.invokevirtual 178, 3) := by decide +kernel
theorem dL_law_1321 : decode cL_law 1321 = .ok (.aload_n 2, 1) := by decide +kernel
theorem dL_law_1322 : decode cL_law 1322 = .ok (.invokevirtual 181, 3) := by decide +kernel
theorem dL_law_1325 : decode cL_law 1325 = .ok (.lcmp, 1) := by decide +kernel
theorem dL_law_1326 : decode cL_law 1326 = .ok (.ifCond .eq 176, 3) := by decide +kernel
theorem dL_law_1329 : decode cL_law 1329 = .ok (.iconst 0, 1) := by decide +kernel
theorem dL_law_1330 : decode cL_law 1330 = .ok (.ireturn, 1) := by decide +kernel
theorem dL_law_1331 : decode cL_law 1331 = .ok (.aload_n 1, 1) := by decide +kernel
theorem dL_law_1332 : decode cL_law 1332 = .ok (.invokevirtual 182, 3) := by decide +kernel
theorem dL_law_1335 : decode cL_law 1335 = .ok (.aload_n 2, 1) := by decide +kernel
theorem dL_law_1336 : decode cL_law 1336 = .ok (.invokevirtual 185, 3) := by decide +kernel
theorem dL_law_1339 : decode cL_law 1339 = .ok (.lcmp, 1) := by decide +kernel
theorem dL_law_1340 : decode cL_law 1340 = .ok (.ifCond .eq 162, 3) := by decide +kernel
theorem dL_law_1343 : decode cL_law 1343 = .ok (.iconst 0, 1) := by decide +kernel
theorem dL_law_1344 : decode cL_law 1344 = .ok (.ireturn, 1) := by decide +kernel
theorem dL_law_1345 : decode cL_law 1345 = .ok (.aload_n 1, 1) := by decide +kernel
theorem dL_law_1346 : decode cL_law 1346 = .ok (.invokevirtual 186, 3) := by decide +kernel
theorem dL_law_1349 : decode cL_law 1349 = .ok (.aload_n 2, 1) := by decide +kernel
theorem dL_law_1350 : decode cL_law 1350 = .ok (.invokevirtual 189, 3) := by decide +kernel
theorem dL_law_1353 : decode cL_law 1353 = .ok (.if_icmp .eq 149, 3) := by decide +kernel
theorem dL_law_1356 : decode cL_law 1356 = .ok (.iconst 0, 1) := by decide +kernel
theorem dL_law_1357 : decode cL_law 1357 = .ok (.ireturn, 1) := by decide +kernel
theorem dL_law_1358 : decode cL_law 1358 = .ok (.aload_n 1, 1) := by decide +kernel
theorem dL_law_1359 : decode cL_law 1359 = .ok (.aload 4, 2) := by decide +kernel
theorem dL_law_1361 : decode cL_law 1361 = .ok (.invokestatic 190, 3) := by decide +kernel
theorem dL_law_1364 : decode cL_law 1364 = .ok (.istore 6, 2) := by decide +kernel
theorem dL_law_1366 : decode cL_law 1366 = .ok (.aload_n 2, 1) := by decide +kernel
theorem dL_law_1367 : decode cL_law 1367 = .ok (.invokevirtual 193, 3) := by decide +kernel
theorem dL_law_1370 : decode cL_law 1370 = .ok (.dstore 7, 2) := by decide +kernel
theorem dL_law_1372 : decode cL_law 1372 = .ok (.aload_n 2, 1) := by decide +kernel
theorem dL_law_1373 : decode cL_law 1373 = .ok (.invokevirtual 97, 3) := by decide +kernel
theorem dL_law_1376 : decode cL_law 1376 = .ok (.iload 6, 2) := by decide +kernel
theorem dL_law_1378 : decode cL_law 1378 = .ok (.if_icmp .eq 5, 3) := by decide +kernel
theorem dL_law_1381 : decode cL_law 1381 = .ok (.iconst 0, 1) := by decide +kernel
theorem dL_law_1382 : decode cL_law 1382 = .ok (.ireturn, 1) := by decide +kernel
theorem dL_law_1383 : decode cL_law 1383 = .ok (.iload 6, 2) := by decide +kernel
theorem dL_law_1385 : decode cL_law 1385 = .ok (.ifCond .ne 35, 3) := by decide +kernel
theorem dL_law_1388 : decode cL_law 1388 = .ok (.aload 4, 2) := by decide +kernel
theorem dL_law_1390 : decode cL_law 1390 = .ok (.iconst 0, 1) := by decide +kernel
theorem dL_law_1391 : decode cL_law 1391 = .ok (.daload, 1) := by decide +kernel
theorem dL_law_1392 : decode cL_law 1392 = .ok (.dload 7, 2) := by decide +kernel
theorem dL_law_1394 : decode cL_law 1394 = .ok (.dcmp .l, 1) := by decide +kernel
theorem dL_law_1395 : decode cL_law 1395 = .ok (.ifCond .eq 25, 3) := by decide +kernel
theorem dL_law_1398 : decode cL_law 1398 = .ok (.aload 4, 2) := by decide +kernel
theorem dL_law_1400 : decode cL_law 1400 = .ok (.iconst 0, 1) := by decide +kernel
theorem dL_law_1401 : decode cL_law 1401 = .ok (.daload, 1) := by decide +kernel
theorem dL_law_1402 : decode cL_law 1402 = .ok (.aload 4, 2) := by decide +kernel
theorem dL_law_1404 : decode cL_law 1404 = .ok (.iconst 0, 1) := by decide +kernel
theorem dL_law_1405 : decode cL_law 1405 = .ok (.daload, 1) := by decide +kernel
theorem dL_law_1406 : decode cL_law 1406 = .ok (.dcmp .l, 1) := by decide +kernel
theorem dL_law_1407 : decode cL_law 1407 = .ok (.ifCond .eq 11, 3) := by decide +kernel
theorem dL_law_1410 : decode cL_law 1410 = .ok (.dload 7, 2) := by decide +kernel
theorem dL_law_1412 : decode cL_law 1412 = .ok (.dload 7, 2) := by decide +kernel
theorem dL_law_1414 : decode cL_law 1414 = .ok (.dcmp .l, 1) := by decide +kernel
theorem dL_law_1415 : decode cL_law 1415 = .ok (.ifCond .ne 5, 3) := by decide +kernel
theorem dL_law_1418 : decode cL_law 1418 = .ok (.iconst 0, 1) := by decide +kernel
theorem dL_law_1419 : decode cL_law 1419 = .ok (.ireturn, 1) := by decide +kernel
theorem dL_law_1420 : decode cL_law 1420 = .ok (.goto 82, 3) := by decide +kernel
theorem dL_law_1423 : decode cL_law 1423 = .ok (.aload_n 1, 1) := by decide +kernel
theorem dL_law_1424 : decode cL_law 1424 = .ok (.aload 4, 2) := by decide +kernel
theorem dL_law_1426 : decode cL_law 1426 = .ok (.invokestatic 194, 3) := by decide +kernel
theorem dL_law_1429 : decode cL_law 1429 = .ok (.istore 6, 2) := by decide +kernel
theorem dL_law_1431 : decode cL_law 1431 = .ok (.aload_n 2, 1) := by decide +kernel
theorem dL_law_1432 : decode cL_law 1432 = .ok (.invokevirtual 196, 3) := by decide +kernel
theorem dL_law_1435 : decode cL_law 1435 = .ok (.fstore 7, 2) := by decide +kernel
theorem dL_law_1437 : decode cL_law 1437 = .ok (.aload_n 2, 1) := by decide +kernel
theorem dL_law_1438 : decode cL_law 1438 = .ok (.invokevirtual 97, 3) := by decide +kernel
theorem dL_law_1441 : decode cL_law 1441 = .ok (.iload 6, 2) := by decide +kernel
theorem dL_law_1443 : decode cL_law 1443 = .ok (.if_icmp .eq 5, 3) := by decide +kernel
theorem dL_law_1446 : decode cL_law 1446 = .ok (.iconst 0, 1) := by decide +kernel
theorem dL_law_1447 : decode cL_law 1447 = .ok (.ireturn, 1) := by decide +kernel
theorem dL_law_1448 : decode cL_law 1448 = .ok (.iload 6, 2) := by decide +kernel
theorem dL_law_1450 : decode cL_law 1450 = .ok (.ifCond .ne 36, 3) := by decide +kernel
theorem dL_law_1453 : decode cL_law 1453 = .ok (.aload 4, 2) := by decide +kernel
theorem dL_law_1455 : decode cL_law 1455 = .ok (.iconst 0, 1) := by decide +kernel
theorem dL_law_1456 : decode cL_law 1456 = .ok (.daload, 1) := by decide +kernel
theorem dL_law_1457 : decode cL_law 1457 = .ok (.fload 7, 2) := by decide +kernel
theorem dL_law_1459 : decode cL_law 1459 = .ok (.f2d, 1) := by decide +kernel
theorem dL_law_1460 : decode cL_law 1460 = .ok (.dcmp .l, 1) := by decide +kernel
theorem dL_law_1461 : decode cL_law 1461 = .ok (.ifCond .eq 25, 3) := by decide +kernel
theorem dL_law_1464 : decode cL_law 1464 = .ok (.aload 4, 2) := by decide +kernel
theorem dL_law_1466 : decode cL_law 1466 = .ok (.iconst 0, 1) := by decide +kernel
theorem dL_law_1467 : decode cL_law 1467 = .ok (.daload, 1) := by decide +kernel
theorem dL_law_1468 : decode cL_law 1468 = .ok (.aload 4, 2) := by decide +kernel
theorem dL_law_1470 : decode cL_law 1470 = .ok (.iconst 0, 1) := by decide +kernel
theorem dL_law_1471 : decode cL_law 1471 = .ok (.daload, 1) := by decide +kernel
theorem dL_law_1472 : decode cL_law 1472 = .ok (.dcmp .l, 1) := by decide +kernel
theorem dL_law_1473 : decode cL_law 1473 = .ok (.ifCond .eq 11, 3) := by decide +kernel
theorem dL_law_1476 : decode cL_law 1476 = .ok (.fload 7, 2) := by decide +kernel
theorem dL_law_1478 : decode cL_law 1478 = .ok (.fload 7, 2) := by decide +kernel
theorem dL_law_1480 : decode cL_law 1480 = .ok (.fcmp .l, 1) := by decide +kernel
theorem dL_law_1481 : decode cL_law 1481 = .ok (.ifCond .ne 5, 3) := by decide +kernel
theorem dL_law_1484 : decode cL_law 1484 = .ok (.iconst 0, 1) := by decide +kernel
theorem dL_law_1485 : decode cL_law 1485 = .ok (.ireturn, 1) := by decide +kernel
theorem dL_law_1486 : decode cL_law 1486 = .ok (.goto 16, 3) := by decide +kernel
theorem dL_law_1489 : decode cL_law 1489 = .ok (.aload_n 1, 1) := by decide +kernel
theorem dL_law_1490 : decode cL_law 1490 = .ok (.invokevirtual 197, 3) := by decide +kernel
theorem dL_law_1493 : decode cL_law 1493 = .ok (.aload_n 2, 1) := by decide +kernel
theorem dL_law_1494 : decode cL_law 1494 = .ok (.invokevirtual 201, 3) := by decide +kernel
theorem dL_law_1497 : decode cL_law 1497 = .ok (.if_icmp .eq 5, 3) := by decide +kernel
theorem dL_law_1500 : decode cL_law 1500 = .ok (.iconst 0, 1) := by decide +kernel
theorem dL_law_1501 : decode cL_law 1501 = .ok (.ireturn, 1) := by decide +kernel
theorem dL_law_1502 : decode cL_law 1502 = .ok (.iinc 5 3, 3) := by decide +kernel
theorem dL_law_1505 : decode cL_law 1505 = .ok (.goto (-1477), 3) := by decide +kernel
theorem dL_law_1508 : decode cL_law 1508 = .ok (.iconst 1, 1) := by decide +kernel
theorem dL_law_1509 : decode cL_law 1509 = .ok (.ireturn, 1) := by decide +kernel
