theorem dX7_init_0 : decode cX7_init 0 = .ok (.aload_n 0, 1) := by decide +kernel
theorem dX7_init_1 : decode cX7_init 1 = .ok (.invokespecial 1, 3) := by decide +kernel
theorem dX7_init_4 : decode cX7_init 4 = .ok (.aload_n 0, 1) := by decide +kernel
theorem dX7_init_5 : decode cX7_init 5 = .ok (.bipush 6, 2) := by decide +kernel
theorem dX7_init_7 : decode cX7_init 7 = .ok (.anewarray 9, 3) := by decide +kernel
theorem dX7_init_10 : decode cX7_init 10 = .ok (.putfield 11, 3) := by decide +kernel
theorem dX7_init_13 : decode cX7_init 13 = .ok (.aload_n 0, 1) := by decide +kernel
theorem dX7_init_14 : decode cX7_init 14 = .ok (.bipush 8, 2) := by decide +kernel
theorem dX7_init_16 : decode cX7_init 16 = .ok (.anewarray 15, 3) := by decide +kernel
theorem dX7_init_19 : decode cX7_init 19 = .ok (.putfield 17, 3) := by decide +kernel
theorem dX7_init_22 : decode cX7_init 22 = .ok (.aload_n 0, 1) := by decide +kernel
theorem dX7_init_23 : decode cX7_init 23 = .ok (.bipush 8, 2) := by decide +kernel
theorem dX7_init_25 : decode cX7_init 25 = .ok (.anewarray 21, 3) := by decide +kernel
theorem dX7_init_28 : decode cX7_init 28 = .ok (.putfield 23, 3) := by decide +kernel
theorem dX7_init_31 : decode cX7_init 31 = .ok (.aload_n 0, 1) := by decide +kernel
theorem dX7_init_32 : decode cX7_init 32 = .ok (.new 27, 3) := by decide +kernel
theorem dX7_init_35 : decode cX7_init 35 = .ok (.dup, 1) := by decide +kernel
theorem dX7_init_36 : decode cX7_init 36 = .ok (.invokespecial 29, 3) := by decide +kernel
theorem dX7_init_39 : decode cX7_init 39 = .ok (.putfield 30, 3) := by decide +kernel
theorem dX7_init_42 : decode cX7_init 42 = .ok (.aload_n 0, 1) := by decide +kernel
theorem dX7_init_43 : decode cX7_init 43 = .ok (.new 34, 3) := by decide +kernel
theorem dX7_init_46 : decode cX7_init 46 = .ok (.dup, 1) := by decide +kernel
theorem dX7_init_47 : decode cX7_init 47 = .ok (.invokespecial 36, 3) := by decide +kernel
theorem dX7_init_50 : decode cX7_init 50 = .ok (.putfield 37, 3) := by decide +kernel
theorem dX7_init_53 : decode cX7_init 53 = .ok (.aload_n 0, 1) := by decide +kernel
theorem dX7_init_54 : decode cX7_init 54 = .ok (.new 41, 3) := by decide +kernel
theorem dX7_init_57 : decode cX7_init 57 = .ok (.dup, 1) := by decide +kernel
theorem dX7_init_58 : decode cX7_init 58 = .ok (.invokespecial 43, 3) := by decide +kernel
theorem dX7_init_61 : decode cX7_init 61 = .ok (.putfield 44, 3) := by decide +kernel
theorem dX7_init_64 : decode cX7_init 64 = .ok (.aload_n 0, 1) := by decide +kernel
theorem dX7_init_65 : decode cX7_init 65 = .ok (.new 48, 3) := by decide +kernel
theorem dX7_init_68 : decode cX7_init 68 = .ok (.dup, 1) := by decide +kernel
theorem dX7_init_69 : decode cX7_init 69 = .ok (.invokespecial 50, 3) := by decide +kernel
theorem dX7_init_72 : decode cX7_init 72 = .ok (.putfield 51, 3) := by decide +kernel
theorem dX7_init_75 : decode cX7_init 75 = .ok (.aload_n 0, 1) := by decide +kernel
theorem dX7_init_76 : decode cX7_init 76 = .ok (.sipush 200, 3) := by decide +kernel
theorem dX7_init_79 : decode cX7_init 79 = .ok (.putfield 55, 3) := by decide +kernel
theorem dX7_init_82 : decode cX7_init 82 = .ok (.aload_n 0, 1) := by decide +kernel
theorem dX7_init_83 : decode cX7_init 83 = .ok (.new 9, 3) := by decide +kernel
theorem dX7_init_86 : decode cX7_init 86 = .ok (.dup, 1) := by decide +kernel
theorem dX7_init_87 : decode cX7_init 87 = .ok (.iconst 0, 1) := by decide +kernel
theorem dX7_init_88 : decode cX7_init 88 = .ok (.iconst 0, 1) := by decide +kernel
theorem dX7_init_89 : decode cX7_init 89 = .ok (.invokespecial 59, 3) := by decide +kernel
theorem dX7_init_92 : decode cX7_init 92 = .ok (.putfield 62, 3) := by decide +kernel
theorem dX7_init_95 : decode cX7_init 95 = .ok (.aload_n 0, 1) := by decide +kernel
theorem dX7_init_96 : decode cX7_init 96 = .ok (.new 27, 3) := by decide +kernel
theorem dX7_init_99 : decode cX7_init 99 = .ok (.dup, 1) := by decide +kernel
theorem dX7_init_100 : decode cX7_init 100 = .ok (.invokespecial 29, 3) := by decide +kernel
theorem dX7_init_103 : decode cX7_init 103 = .ok (.putfield 66, 3) := by decide +kernel
theorem dX7_init_106 : decode cX7_init 106 = .ok (.aload_n 0, 1) := by decide +kernel
theorem dX7_init_107 : decode cX7_init 107 = .ok (.new 34, 3) := by decide +kernel
theorem dX7_init_110 : decode cX7_init 110 = .ok (.dup, 1) := by decide +kernel
theorem dX7_init_111 : decode cX7_init 111 = .ok (.invokespecial 36, 3) := by decide +kernel
theorem dX7_init_114 : decode cX7_init 114 = .ok (.putfield 69, 3) := by decide +kernel
theorem dX7_init_117 : decode cX7_init 117 = .ok (.aload_n 0, 1) := by decide +kernel
theorem dX7_init_118 : decode cX7_init 118 = .ok (.bipush 8, 2) := by decide +kernel
theorem dX7_init_120 : decode cX7_init 120 = .ok (.newarray .int, 2) := by decide +kernel
theorem dX7_init_122 : decode cX7_init 122 = .ok (.putfield 72, 3) := by decide +kernel
theorem dX7_init_125 : decode cX7_init 125 = .ok (.return_, 1) := by decide +kernel
theorem dX7_pan_0 : decode cX7_pan 0 = .ok (.iload_n 1, 1) := by decide +kernel
theorem dX7_pan_1 : decode cX7_pan 1 = .ok (.invokestatic 76, 3) := by decide +kernel
theorem dX7_pan_4 : decode cX7_pan 4 = .ok (.aload_n 0, 1) := by decide +kernel
theorem dX7_pan_5 : decode cX7_pan 5 = .ok (.getfield 80, 3) := by decide +kernel
theorem dX7_pan_8 : decode cX7_pan 8 = .ok (.bipush 6, 2) := by decide +kernel
theorem dX7_pan_10 : decode cX7_pan 10 = .ok (.if_icmp .lt 13, 3) := by decide +kernel
theorem dX7_pan_13 : decode cX7_pan 13 = .ok (.new 83, 3) := by decide +kernel
theorem dX7_pan_16 : decode cX7_pan 16 = .ok (.dup, 1) := by decide +kernel
theorem dX7_pan_17 : decode cX7_pan 17 = .ok (.ldc 85, 2) := by decide +kernel
theorem dX7_pan_19 : decode cX7_pan 19 = .ok (.invokespecial 87, 3) := by decide +kernel
theorem dX7_pan_22 : decode cX7_pan 22 = .ok (.athrow, 1) := by decide +kernel
theorem dX7_pan_23 : decode cX7_pan 23 = .ok (.aload_n 0, 1) := by decide +kernel
theorem dX7_pan_24 : decode cX7_pan 24 = .ok (.getfield 80, 3) := by decide +kernel
theorem dX7_pan_27 : decode cX7_pan 27 = .ok (.istore_n 2, 1) := by decide +kernel
theorem dX7_pan_28 : decode cX7_pan 28 = .ok (.aload_n 0, 1) := by decide +kernel
theorem dX7_pan_29 : decode cX7_pan 29 = .ok (.getfield 11, 3) := by decide +kernel
theorem dX7_pan_32 : decode cX7_pan 32 = .ok (.iload_n 2, 1) := by decide +kernel
theorem dX7_pan_33 : decode cX7_pan 33 = .ok (.new 9, 3) := by decide +kernel
theorem dX7_pan_36 : decode cX7_pan 36 = .ok (.dup, 1) := by decide +kernel
theorem dX7_pan_37 : decode cX7_pan 37 = .ok (.iload_n 2, 1) := by decide +kernel
theorem dX7_pan_38 : decode cX7_pan 38 = .ok (.iload_n 1, 1) := by decide +kernel
theorem dX7_pan_39 : decode cX7_pan 39 = .ok (.invokespecial 59, 3) := by decide +kernel
theorem dX7_pan_42 : decode cX7_pan 42 = .ok (.aastore, 1) := by decide +kernel
theorem dX7_pan_43 : decode cX7_pan 43 = .ok (.aload_n 0, 1) := by decide +kernel
theorem dX7_pan_44 : decode cX7_pan 44 = .ok (.dup, 1) := by decide +kernel
theorem dX7_pan_45 : decode cX7_pan 45 = .ok (.getfield 80, 3) := by decide +kernel
theorem dX7_pan_48 : decode cX7_pan 48 = .ok (.iconst 1, 1) := by decide +kernel
theorem dX7_pan_49 : decode cX7_pan 49 = .ok (.iadd, 1) := by decide +kernel
theorem dX7_pan_50 : decode cX7_pan 50 = .ok (.putfield 80, 3) := by decide +kernel
theorem dX7_pan_53 : decode cX7_pan 53 = .ok (.aload_n 0, 1) := by decide +kernel
theorem dX7_pan_54 : decode cX7_pan 54 = .ok (.dup, 1) := by decide +kernel
theorem dX7_pan_55 : decode cX7_pan 55 = .ok (.getfield 55, 3) := by decide +kernel
theorem dX7_pan_58 : decode cX7_pan 58 = .ok (.bipush 40, 2) := by decide +kernel
theorem dX7_pan_60 : decode cX7_pan 60 = .ok (.isub, 1) := by decide +kernel
theorem dX7_pan_61 : decode cX7_pan 61 = .ok (.putfield 55, 3) := by decide +kernel
theorem dX7_pan_64 : decode cX7_pan 64 = .ok (.iload_n 2, 1) := by decide +kernel
theorem dX7_pan_65 : decode cX7_pan 65 = .ok (.ireturn, 1) := by decide +kernel
theorem dX7_blow_0 : decode cX7_blow 0 = .ok (.aload_n 0, 1) := by decide +kernel
theorem dX7_blow_1 : decode cX7_blow 1 = .ok (.iload_n 1, 1) := by decide +kernel
theorem dX7_blow_2 : decode cX7_blow 2 = .ok (.invokevirtual 90, 3) := by decide +kernel
theorem dX7_blow_5 : decode cX7_blow 5 = .ok (.iload_n 2, 1) := by decide +kernel
theorem dX7_blow_6 : decode cX7_blow 6 = .ok (.invokestatic 93, 3) := by decide +kernel
theorem dX7_blow_9 : decode cX7_blow 9 = .ok (.iload_n 3, 1) := by decide +kernel
theorem dX7_blow_10 : decode cX7_blow 10 = .ok (.ifCond .eq 14, 3) := by decide +kernel
theorem dX7_blow_13 : decode cX7_blow 13 = .ok (.iload_n 3, 1) := by decide +kernel
theorem dX7_blow_14 : decode cX7_blow 14 = .ok (.bipush (-20), 2) := by decide +kernel
theorem dX7_blow_16 : decode cX7_blow 16 = .ok (.bipush 20, 2) := by decide +kernel
theorem dX7_blow_18 : decode cX7_blow 18 = .ok (.invokestatic 96, 3) := by decide +kernel
theorem dX7_blow_21 : decode cX7_blow 21 = .ok (.ifCond .ne 13, 3) := by decide +kernel
theorem dX7_blow_24 : decode cX7_blow 24 = .ok (.new 100, 3) := by decide +kernel
theorem dX7_blow_27 : decode cX7_blow 27 = .ok (.dup, 1) := by decide +kernel
theorem dX7_blow_28 : decode cX7_blow 28 = .ok (.ldc 102, 2) := by decide +kernel
theorem dX7_blow_30 : decode cX7_blow 30 = .ok (.invokespecial 104, 3) := by decide +kernel
theorem dX7_blow_33 : decode cX7_blow 33 = .ok (.athrow, 1) := by decide +kernel
theorem dX7_blow_34 : decode cX7_blow 34 = .ok (.aload_n 0, 1) := by decide +kernel
theorem dX7_blow_35 : decode cX7_blow 35 = .ok (.iload_n 1, 1) := by decide +kernel
theorem dX7_blow_36 : decode cX7_blow 36 = .ok (.invokevirtual 105, 3) := by decide +kernel
theorem dX7_blow_39 : decode cX7_blow 39 = .ok (.aload_n 0, 1) := by decide +kernel
theorem dX7_blow_40 : decode cX7_blow 40 = .ok (.getfield 11, 3) := by decide +kernel
theorem dX7_blow_43 : decode cX7_blow 43 = .ok (.iload_n 1, 1) := by decide +kernel
theorem dX7_blow_44 : decode cX7_blow 44 = .ok (.aaload, 1) := by decide +kernel
theorem dX7_blow_45 : decode cX7_blow 45 = .ok (.astore 4, 2) := by decide +kernel
theorem dX7_blow_47 : decode cX7_blow 47 = .ok (.aload 4, 2) := by decide +kernel
theorem dX7_blow_49 : decode cX7_blow 49 = .ok (.iload_n 2, 1) := by decide +kernel
theorem dX7_blow_50 : decode cX7_blow 50 = .ok (.iload_n 3, 1) := by decide +kernel
theorem dX7_blow_51 : decode cX7_blow 51 = .ok (.invokevirtual 108, 3) := by decide +kernel
theorem dX7_blow_54 : decode cX7_blow 54 = .ok (.aload 4, 2) := by decide +kernel
theorem dX7_blow_56 : decode cX7_blow 56 = .ok (.getfield 111, 3) := by decide +kernel
theorem dX7_blow_59 : decode cX7_blow 59 = .ok (.iload_n 2, 1) := by decide +kernel
theorem dX7_blow_60 : decode cX7_blow 60 = .ok (.iaload, 1) := by decide +kernel
theorem dX7_blow_61 : decode cX7_blow 61 = .ok (.ireturn, 1) := by decide +kernel
theorem dX7_burn_0 : decode cX7_burn 0 = .ok (.aload_n 0, 1) := by decide +kernel
theorem dX7_burn_1 : decode cX7_burn 1 = .ok (.iload_n 1, 1) := by decide +kernel
theorem dX7_burn_2 : decode cX7_burn 2 = .ok (.invokevirtual 90, 3) := by decide +kernel
theorem dX7_burn_5 : decode cX7_burn 5 = .ok (.aload_n 0, 1) := by decide +kernel
theorem dX7_burn_6 : decode cX7_burn 6 = .ok (.iload_n 1, 1) := by decide +kernel
theorem dX7_burn_7 : decode cX7_burn 7 = .ok (.invokevirtual 105, 3) := by decide +kernel
theorem dX7_burn_10 : decode cX7_burn 10 = .ok (.aload_n 0, 1) := by decide +kernel
theorem dX7_burn_11 : decode cX7_burn 11 = .ok (.getfield 11, 3) := by decide +kernel
theorem dX7_burn_14 : decode cX7_burn 14 = .ok (.iload_n 1, 1) := by decide +kernel
theorem dX7_burn_15 : decode cX7_burn 15 = .ok (.aaload, 1) := by decide +kernel
theorem dX7_burn_16 : decode cX7_burn 16 = .ok (.invokevirtual 114, 3) := by decide +kernel
theorem dX7_burn_19 : decode cX7_burn 19 = .ok (.aload_n 0, 1) := by decide +kernel
theorem dX7_burn_20 : decode cX7_burn 20 = .ok (.dup, 1) := by decide +kernel
theorem dX7_burn_21 : decode cX7_burn 21 = .ok (.getfield 55, 3) := by decide +kernel
theorem dX7_burn_24 : decode cX7_burn 24 = .ok (.iconst 5, 1) := by decide +kernel
theorem dX7_burn_25 : decode cX7_burn 25 = .ok (.isub, 1) := by decide +kernel
theorem dX7_burn_26 : decode cX7_burn 26 = .ok (.putfield 55, 3) := by decide +kernel
theorem dX7_burn_29 : decode cX7_burn 29 = .ok (.aload_n 0, 1) := by decide +kernel
theorem dX7_burn_30 : decode cX7_burn 30 = .ok (.getfield 11, 3) := by decide +kernel
theorem dX7_burn_33 : decode cX7_burn 33 = .ok (.iload_n 1, 1) := by decide +kernel
theorem dX7_burn_34 : decode cX7_burn 34 = .ok (.aaload, 1) := by decide +kernel
theorem dX7_burn_35 : decode cX7_burn 35 = .ok (.getfield 117, 3) := by decide +kernel
theorem dX7_burn_38 : decode cX7_burn 38 = .ok (.ireturn, 1) := by decide +kernel
theorem dX7_tuner_0 : decode cX7_tuner 0 = .ok (.aload_n 0, 1) := by decide +kernel
theorem dX7_tuner_1 : decode cX7_tuner 1 = .ok (.iload_n 1, 1) := by decide +kernel
theorem dX7_tuner_2 : decode cX7_tuner 2 = .ok (.invokevirtual 90, 3) := by decide +kernel
theorem dX7_tuner_5 : decode cX7_tuner 5 = .ok (.iload_n 2, 1) := by decide +kernel
theorem dX7_tuner_6 : decode cX7_tuner 6 = .ok (.bipush 10, 2) := by decide +kernel
theorem dX7_tuner_8 : decode cX7_tuner 8 = .ok (.bipush 120, 2) := by decide +kernel
theorem dX7_tuner_10 : decode cX7_tuner 10 = .ok (.invokestatic 96, 3) := by decide +kernel
theorem dX7_tuner_13 : decode cX7_tuner 13 = .ok (.ifCond .ne 13, 3) := by decide +kernel
theorem dX7_tuner_16 : decode cX7_tuner 16 = .ok (.new 100, 3) := by decide +kernel
theorem dX7_tuner_19 : decode cX7_tuner 19 = .ok (.dup, 1) := by decide +kernel
theorem dX7_tuner_20 : decode cX7_tuner 20 = .ok (.ldc 120, 2) := by decide +kernel
theorem dX7_tuner_22 : decode cX7_tuner 22 = .ok (.invokespecial 104, 3) := by decide +kernel
theorem dX7_tuner_25 : decode cX7_tuner 25 = .ok (.athrow, 1) := by decide +kernel
theorem dX7_tuner_26 : decode cX7_tuner 26 = .ok (.aload_n 0, 1) := by decide +kernel
theorem dX7_tuner_27 : decode cX7_tuner 27 = .ok (.iload_n 1, 1) := by decide +kernel
theorem dX7_tuner_28 : decode cX7_tuner 28 = .ok (.invokevirtual 105, 3) := by decide +kernel
theorem dX7_tuner_31 : decode cX7_tuner 31 = .ok (.aload_n 0, 1) := by decide +kernel
theorem dX7_tuner_32 : decode cX7_tuner 32 = .ok (.getfield 11, 3) := by decide +kernel
theorem dX7_tuner_35 : decode cX7_tuner 35 = .ok (.iload_n 1, 1) := by decide +kernel
theorem dX7_tuner_36 : decode cX7_tuner 36 = .ok (.aaload, 1) := by decide +kernel
theorem dX7_tuner_37 : decode cX7_tuner 37 = .ok (.iload_n 2, 1) := by decide +kernel
theorem dX7_tuner_38 : decode cX7_tuner 38 = .ok (.bipush 10, 2) := by decide +kernel
theorem dX7_tuner_40 : decode cX7_tuner 40 = .ok (.idiv, 1) := by decide +kernel
theorem dX7_tuner_41 : decode cX7_tuner 41 = .ok (.invokevirtual 122, 3) := by decide +kernel
theorem dX7_tuner_44 : decode cX7_tuner 44 = .ok (.istore_n 3, 1) := by decide +kernel
theorem dX7_tuner_45 : decode cX7_tuner 45 = .ok (.aload_n 0, 1) := by decide +kernel
theorem dX7_tuner_46 : decode cX7_tuner 46 = .ok (.dup, 1) := by decide +kernel
theorem dX7_tuner_47 : decode cX7_tuner 47 = .ok (.getfield 55, 3) := by decide +kernel
theorem dX7_tuner_50 : decode cX7_tuner 50 = .ok (.iconst 4, 1) := by decide +kernel
theorem dX7_tuner_51 : decode cX7_tuner 51 = .ok (.iload_n 3, 1) := by decide +kernel
theorem dX7_tuner_52 : decode cX7_tuner 52 = .ok (.imul, 1) := by decide +kernel
theorem dX7_tuner_53 : decode cX7_tuner 53 = .ok (.isub, 1) := by decide +kernel
theorem dX7_tuner_54 : decode cX7_tuner 54 = .ok (.putfield 55, 3) := by decide +kernel
theorem dX7_tuner_57 : decode cX7_tuner 57 = .ok (.iload_n 3, 1) := by decide +kernel
theorem dX7_tuner_58 : decode cX7_tuner 58 = .ok (.ireturn, 1) := by decide +kernel
theorem dX7_cover_0 : decode cX7_cover 0 = .ok (.aload_n 0, 1) := by decide +kernel
theorem dX7_cover_1 : decode cX7_cover 1 = .ok (.getfield 126, 3) := by decide +kernel
theorem dX7_cover_4 : decode cX7_cover 4 = .ok (.istore_n 2, 1) := by decide +kernel
theorem dX7_cover_5 : decode cX7_cover 5 = .ok (.aload_n 0, 1) := by decide +kernel
theorem dX7_cover_6 : decode cX7_cover 6 = .ok (.iload_n 1, 1) := by decide +kernel
theorem dX7_cover_7 : decode cX7_cover 7 = .ok (.putfield 126, 3) := by decide +kernel
theorem dX7_cover_10 : decode cX7_cover 10 = .ok (.iload_n 2, 1) := by decide +kernel
theorem dX7_cover_11 : decode cX7_cover 11 = .ok (.ireturn, 1) := by decide +kernel
theorem dX7_phrase_0 : decode cX7_phrase 0 = .ok (.iload_n 1, 1) := by decide +kernel
theorem dX7_phrase_1 : decode cX7_phrase 1 = .ok (.invokestatic 76, 3) := by decide +kernel
theorem dX7_phrase_4 : decode cX7_phrase 4 = .ok (.iload_n 2, 1) := by decide +kernel
theorem dX7_phrase_5 : decode cX7_phrase 5 = .ok (.iload_n 3, 1) := by decide +kernel
theorem dX7_phrase_6 : decode cX7_phrase 6 = .ok (.invokestatic 130, 3) := by decide +kernel
theorem dX7_phrase_9 : decode cX7_phrase 9 = .ok (.aload_n 0, 1) := by decide +kernel
theorem dX7_phrase_10 : decode cX7_phrase 10 = .ok (.getfield 133, 3) := by decide +kernel
theorem dX7_phrase_13 : decode cX7_phrase 13 = .ok (.bipush 8, 2) := by decide +kernel
theorem dX7_phrase_15 : decode cX7_phrase 15 = .ok (.if_icmp .lt 13, 3) := by decide +kernel
theorem dX7_phrase_18 : decode cX7_phrase 18 = .ok (.new 83, 3) := by decide +kernel
theorem dX7_phrase_21 : decode cX7_phrase 21 = .ok (.dup, 1) := by decide +kernel
theorem dX7_phrase_22 : decode cX7_phrase 22 = .ok (.ldc 136, 2) := by decide +kernel
theorem dX7_phrase_24 : decode cX7_phrase 24 = .ok (.invokespecial 87, 3) := by decide +kernel
theorem dX7_phrase_27 : decode cX7_phrase 27 = .ok (.athrow, 1) := by decide +kernel
theorem dX7_phrase_28 : decode cX7_phrase 28 = .ok (.aload_n 0, 1) := by decide +kernel
theorem dX7_phrase_29 : decode cX7_phrase 29 = .ok (.getfield 133, 3) := by decide +kernel
theorem dX7_phrase_32 : decode cX7_phrase 32 = .ok (.istore 4, 2) := by decide +kernel
theorem dX7_phrase_34 : decode cX7_phrase 34 = .ok (.aload_n 0, 1) := by decide +kernel
theorem dX7_phrase_35 : decode cX7_phrase 35 = .ok (.getfield 17, 3) := by decide +kernel
theorem dX7_phrase_38 : decode cX7_phrase 38 = .ok (.iload 4, 2) := by decide +kernel
theorem dX7_phrase_40 : decode cX7_phrase 40 = .ok (.new 15, 3) := by decide +kernel
theorem dX7_phrase_43 : decode cX7_phrase 43 = .ok (.dup, 1) := by decide +kernel
theorem dX7_phrase_44 : decode cX7_phrase 44 = .ok (.iload_n 1, 1) := by decide +kernel
theorem dX7_phrase_45 : decode cX7_phrase 45 = .ok (.iload_n 2, 1) := by decide +kernel
theorem dX7_phrase_46 : decode cX7_phrase 46 = .ok (.iload_n 3, 1) := by decide +kernel
theorem dX7_phrase_47 : decode cX7_phrase 47 = .ok (.invokespecial 138, 3) := by decide +kernel
theorem dX7_phrase_50 : decode cX7_phrase 50 = .ok (.aastore, 1) := by decide +kernel
theorem dX7_phrase_51 : decode cX7_phrase 51 = .ok (.aload_n 0, 1) := by decide +kernel
theorem dX7_phrase_52 : decode cX7_phrase 52 = .ok (.dup, 1) := by decide +kernel
theorem dX7_phrase_53 : decode cX7_phrase 53 = .ok (.getfield 133, 3) := by decide +kernel
theorem dX7_phrase_56 : decode cX7_phrase 56 = .ok (.iconst 1, 1) := by decide +kernel
theorem dX7_phrase_57 : decode cX7_phrase 57 = .ok (.iadd, 1) := by decide +kernel
theorem dX7_phrase_58 : decode cX7_phrase 58 = .ok (.putfield 133, 3) := by decide +kernel
theorem dX7_phrase_61 : decode cX7_phrase 61 = .ok (.iload 4, 2) := by decide +kernel
theorem dX7_phrase_63 : decode cX7_phrase 63 = .ok (.ireturn, 1) := by decide +kernel
theorem dX7_change_0 : decode cX7_change 0 = .ok (.aload_n 0, 1) := by decide +kernel
theorem dX7_change_1 : decode cX7_change 1 = .ok (.iload_n 1, 1) := by decide +kernel
theorem dX7_change_2 : decode cX7_change 2 = .ok (.invokevirtual 141, 3) := by decide +kernel
theorem dX7_change_5 : decode cX7_change 5 = .ok (.iload_n 2, 1) := by decide +kernel
theorem dX7_change_6 : decode cX7_change 6 = .ok (.iload_n 3, 1) := by decide +kernel
theorem dX7_change_7 : decode cX7_change 7 = .ok (.invokestatic 130, 3) := by decide +kernel
theorem dX7_change_10 : decode cX7_change 10 = .ok (.aload_n 0, 1) := by decide +kernel
theorem dX7_change_11 : decode cX7_change 11 = .ok (.getfield 17, 3) := by decide +kernel
theorem dX7_change_14 : decode cX7_change 14 = .ok (.iload_n 1, 1) := by decide +kernel
theorem dX7_change_15 : decode cX7_change 15 = .ok (.aaload, 1) := by decide +kernel
theorem dX7_change_16 : decode cX7_change 16 = .ok (.astore 4, 2) := by decide +kernel
theorem dX7_change_18 : decode cX7_change 18 = .ok (.aload 4, 2) := by decide +kernel
theorem dX7_change_20 : decode cX7_change 20 = .ok (.iload_n 2, 1) := by decide +kernel
theorem dX7_change_21 : decode cX7_change 21 = .ok (.iload_n 3, 1) := by decide +kernel
theorem dX7_change_22 : decode cX7_change 22 = .ok (.invokevirtual 144, 3) := by decide +kernel
theorem dX7_change_25 : decode cX7_change 25 = .ok (.iconst 0, 1) := by decide +kernel
theorem dX7_change_26 : decode cX7_change 26 = .ok (.istore 5, 2) := by decide +kernel
theorem dX7_change_28 : decode cX7_change 28 = .ok (.iload 5, 2) := by decide +kernel
theorem dX7_change_30 : decode cX7_change 30 = .ok (.aload_n 0, 1) := by decide +kernel
theorem dX7_change_31 : decode cX7_change 31 = .ok (.getfield 147, 3) := by decide +kernel
theorem dX7_change_34 : decode cX7_change 34 = .ok (.if_icmp .ge 31, 3) := by decide +kernel
theorem dX7_change_37 : decode cX7_change 37 = .ok (.aload_n 0, 1) := by decide +kernel
theorem dX7_change_38 : decode cX7_change 38 = .ok (.getfield 37, 3) := by decide +kernel
theorem dX7_change_41 : decode cX7_change 41 = .ok (.iload 5, 2) := by decide +kernel
theorem dX7_change_43 : decode cX7_change 43 = .ok (.iload_n 1, 1) := by decide +kernel
theorem dX7_change_44 : decode cX7_change 44 = .ok (.aload_n 0, 1) := by decide +kernel
theorem dX7_change_45 : decode cX7_change 45 = .ok (.getfield 23, 3) := by decide +kernel
theorem dX7_change_48 : decode cX7_change 48 = .ok (.iload 5, 2) := by decide +kernel
theorem dX7_change_50 : decode cX7_change 50 = .ok (.aaload, 1) := by decide +kernel
theorem dX7_change_51 : decode cX7_change 51 = .ok (.aload 4, 2) := by decide +kernel
theorem dX7_change_53 : decode cX7_change 53 = .ok (.invokevirtual 150, 3) := by decide +kernel
theorem dX7_change_56 : decode cX7_change 56 = .ok (.invokevirtual 154, 3) := by decide +kernel
theorem dX7_change_59 : decode cX7_change 59 = .ok (.iinc 5 1, 3) := by decide +kernel
theorem dX7_change_62 : decode cX7_change 62 = .ok (.goto (-34), 3) := by decide +kernel
theorem dX7_change_65 : decode cX7_change 65 = .ok (.aload 4, 2) := by decide +kernel
theorem dX7_change_67 : decode cX7_change 67 = .ok (.getfield 157, 3) := by decide +kernel
theorem dX7_change_70 : decode cX7_change 70 = .ok (.ireturn, 1) := by decide +kernel
theorem dX7_put_0 : decode cX7_put 0 = .ok (.aload_n 0, 1) := by decide +kernel
theorem dX7_put_1 : decode cX7_put 1 = .ok (.iload_n 1, 1) := by decide +kernel
theorem dX7_put_2 : decode cX7_put 2 = .ok (.invokevirtual 141, 3) := by decide +kernel
theorem dX7_put_5 : decode cX7_put 5 = .ok (.aload_n 0, 1) := by decide +kernel
theorem dX7_put_6 : decode cX7_put 6 = .ok (.getfield 30, 3) := by decide +kernel
theorem dX7_put_9 : decode cX7_put 9 = .ok (.getfield 160, 3) := by decide +kernel
theorem dX7_put_12 : decode cX7_put 12 = .ok (.bipush 10, 2) := by decide +kernel
theorem dX7_put_14 : decode cX7_put 14 = .ok (.if_icmp .lt 13, 3) := by decide +kernel
theorem dX7_put_17 : decode cX7_put 17 = .ok (.new 83, 3) := by decide +kernel
theorem dX7_put_20 : decode cX7_put 20 = .ok (.dup, 1) := by decide +kernel
theorem dX7_put_21 : decode cX7_put 21 = .ok (.ldc 163, 2) := by decide +kernel
theorem dX7_put_23 : decode cX7_put 23 = .ok (.invokespecial 87, 3) := by decide +kernel
theorem dX7_put_26 : decode cX7_put 26 = .ok (.athrow, 1) := by decide +kernel
theorem dX7_put_27 : decode cX7_put 27 = .ok (.aload_n 0, 1) := by decide +kernel
theorem dX7_put_28 : decode cX7_put 28 = .ok (.getfield 30, 3) := by decide +kernel
theorem dX7_put_31 : decode cX7_put 31 = .ok (.getfield 160, 3) := by decide +kernel
theorem dX7_put_34 : decode cX7_put 34 = .ok (.istore_n 2, 1) := by decide +kernel
theorem dX7_put_35 : decode cX7_put 35 = .ok (.aload_n 0, 1) := by decide +kernel
theorem dX7_put_36 : decode cX7_put 36 = .ok (.getfield 30, 3) := by decide +kernel
theorem dX7_put_39 : decode cX7_put 39 = .ok (.iload_n 1, 1) := by decide +kernel
theorem dX7_put_40 : decode cX7_put 40 = .ok (.invokevirtual 165, 3) := by decide +kernel
theorem dX7_put_43 : decode cX7_put 43 = .ok (.iload_n 2, 1) := by decide +kernel
theorem dX7_put_44 : decode cX7_put 44 = .ok (.ireturn, 1) := by decide +kernel
theorem dX7_cut_0 : decode cX7_cut 0 = .ok (.aload_n 0, 1) := by decide +kernel
theorem dX7_cut_1 : decode cX7_cut 1 = .ok (.iload_n 1, 1) := by decide +kernel
theorem dX7_cut_2 : decode cX7_cut 2 = .ok (.invokevirtual 168, 3) := by decide +kernel
theorem dX7_cut_5 : decode cX7_cut 5 = .ok (.aload_n 0, 1) := by decide +kernel
theorem dX7_cut_6 : decode cX7_cut 6 = .ok (.getfield 30, 3) := by decide +kernel
theorem dX7_cut_9 : decode cX7_cut 9 = .ok (.getfield 171, 3) := by decide +kernel
theorem dX7_cut_12 : decode cX7_cut 12 = .ok (.iload_n 1, 1) := by decide +kernel
theorem dX7_cut_13 : decode cX7_cut 13 = .ok (.iaload, 1) := by decide +kernel
theorem dX7_cut_14 : decode cX7_cut 14 = .ok (.istore_n 2, 1) := by decide +kernel
theorem dX7_cut_15 : decode cX7_cut 15 = .ok (.aload_n 0, 1) := by decide +kernel
theorem dX7_cut_16 : decode cX7_cut 16 = .ok (.getfield 30, 3) := by decide +kernel
theorem dX7_cut_19 : decode cX7_cut 19 = .ok (.iload_n 1, 1) := by decide +kernel
theorem dX7_cut_20 : decode cX7_cut 20 = .ok (.invokevirtual 174, 3) := by decide +kernel
theorem dX7_cut_23 : decode cX7_cut 23 = .ok (.iload_n 2, 1) := by decide +kernel
theorem dX7_cut_24 : decode cX7_cut 24 = .ok (.ireturn, 1) := by decide +kernel
theorem dX7_player_0 : decode cX7_player 0 = .ok (.iload_n 1, 1) := by decide +kernel
theorem dX7_player_1 : decode cX7_player 1 = .ok (.invokestatic 76, 3) := by decide +kernel
theorem dX7_player_4 : decode cX7_player 4 = .ok (.iload_n 2, 1) := by decide +kernel
theorem dX7_player_5 : decode cX7_player 5 = .ok (.iconst 1, 1) := by decide +kernel
theorem dX7_player_6 : decode cX7_player 6 = .ok (.bipush 9, 2) := by decide +kernel
theorem dX7_player_8 : decode cX7_player 8 = .ok (.invokestatic 96, 3) := by decide +kernel
theorem dX7_player_11 : decode cX7_player 11 = .ok (.ifCond .ne 13, 3) := by decide +kernel
theorem dX7_player_14 : decode cX7_player 14 = .ok (.new 100, 3) := by decide +kernel
theorem dX7_player_17 : decode cX7_player 17 = .ok (.dup, 1) := by decide +kernel
theorem dX7_player_18 : decode cX7_player 18 = .ok (.ldc 177, 2) := by decide +kernel
theorem dX7_player_20 : decode cX7_player 20 = .ok (.invokespecial 104, 3) := by decide +kernel
theorem dX7_player_23 : decode cX7_player 23 = .ok (.athrow, 1) := by decide +kernel
theorem dX7_player_24 : decode cX7_player 24 = .ok (.iload_n 3, 1) := by decide +kernel
theorem dX7_player_25 : decode cX7_player 25 = .ok (.iconst 1, 1) := by decide +kernel
theorem dX7_player_26 : decode cX7_player 26 = .ok (.bipush 8, 2) := by decide +kernel
theorem dX7_player_28 : decode cX7_player 28 = .ok (.invokestatic 96, 3) := by decide +kernel
theorem dX7_player_31 : decode cX7_player 31 = .ok (.ifCond .ne 13, 3) := by decide +kernel
theorem dX7_player_34 : decode cX7_player 34 = .ok (.new 100, 3) := by decide +kernel
theorem dX7_player_37 : decode cX7_player 37 = .ok (.dup, 1) := by decide +kernel
theorem dX7_player_38 : decode cX7_player 38 = .ok (.ldc 179, 2) := by decide +kernel
theorem dX7_player_40 : decode cX7_player 40 = .ok (.invokespecial 104, 3) := by decide +kernel
theorem dX7_player_43 : decode cX7_player 43 = .ok (.athrow, 1) := by decide +kernel
theorem dX7_player_44 : decode cX7_player 44 = .ok (.aload_n 0, 1) := by decide +kernel
theorem dX7_player_45 : decode cX7_player 45 = .ok (.getfield 147, 3) := by decide +kernel
theorem dX7_player_48 : decode cX7_player 48 = .ok (.bipush 8, 2) := by decide +kernel
theorem dX7_player_50 : decode cX7_player 50 = .ok (.if_icmp .lt 13, 3) := by decide +kernel
theorem dX7_player_53 : decode cX7_player 53 = .ok (.new 83, 3) := by decide +kernel
theorem dX7_player_56 : decode cX7_player 56 = .ok (.dup, 1) := by decide +kernel
theorem dX7_player_57 : decode cX7_player 57 = .ok (.ldc 181, 2) := by decide +kernel
theorem dX7_player_59 : decode cX7_player 59 = .ok (.invokespecial 87, 3) := by decide +kernel
theorem dX7_player_62 : decode cX7_player 62 = .ok (.athrow, 1) := by decide +kernel
theorem dX7_player_63 : decode cX7_player 63 = .ok (.aload_n 0, 1) := by decide +kernel
theorem dX7_player_64 : decode cX7_player 64 = .ok (.getfield 147, 3) := by decide +kernel
theorem dX7_player_67 : decode cX7_player 67 = .ok (.istore 4, 2) := by decide +kernel
theorem dX7_player_69 : decode cX7_player 69 = .ok (.aload_n 0, 1) := by decide +kernel
theorem dX7_player_70 : decode cX7_player 70 = .ok (.getfield 23, 3) := by decide +kernel
theorem dX7_player_73 : decode cX7_player 73 = .ok (.iload 4, 2) := by decide +kernel
theorem dX7_player_75 : decode cX7_player 75 = .ok (.new 21, 3) := by decide +kernel
theorem dX7_player_78 : decode cX7_player 78 = .ok (.dup, 1) := by decide +kernel
theorem dX7_player_79 : decode cX7_player 79 = .ok (.iload_n 1, 1) := by decide +kernel
theorem dX7_player_80 : decode cX7_player 80 = .ok (.iload_n 2, 1) := by decide +kernel
theorem dX7_player_81 : decode cX7_player 81 = .ok (.iload_n 3, 1) := by decide +kernel
theorem dX7_player_82 : decode cX7_player 82 = .ok (.invokespecial 183, 3) := by decide +kernel
theorem dX7_player_85 : decode cX7_player 85 = .ok (.aastore, 1) := by decide +kernel
theorem dX7_player_86 : decode cX7_player 86 = .ok (.aload_n 0, 1) := by decide +kernel
theorem dX7_player_87 : decode cX7_player 87 = .ok (.dup, 1) := by decide +kernel
theorem dX7_player_88 : decode cX7_player 88 = .ok (.getfield 147, 3) := by decide +kernel
theorem dX7_player_91 : decode cX7_player 91 = .ok (.iconst 1, 1) := by decide +kernel
theorem dX7_player_92 : decode cX7_player 92 = .ok (.iadd, 1) := by decide +kernel
theorem dX7_player_93 : decode cX7_player 93 = .ok (.putfield 147, 3) := by decide +kernel
theorem dX7_player_96 : decode cX7_player 96 = .ok (.iload 4, 2) := by decide +kernel
theorem dX7_player_98 : decode cX7_player 98 = .ok (.ireturn, 1) := by decide +kernel
theorem dX7_give_0 : decode cX7_give 0 = .ok (.aload_n 0, 1) := by decide +kernel
theorem dX7_give_1 : decode cX7_give 1 = .ok (.iload_n 1, 1) := by decide +kernel
theorem dX7_give_2 : decode cX7_give 2 = .ok (.invokevirtual 184, 3) := by decide +kernel
theorem dX7_give_5 : decode cX7_give 5 = .ok (.iload_n 2, 1) := by decide +kernel
theorem dX7_give_6 : decode cX7_give 6 = .ok (.iconst (-1), 1) := by decide +kernel
theorem dX7_give_7 : decode cX7_give 7 = .ok (.if_icmp .eq 8, 3) := by decide +kernel
theorem dX7_give_10 : decode cX7_give 10 = .ok (.aload_n 0, 1) := by decide +kernel
theorem dX7_give_11 : decode cX7_give 11 = .ok (.iload_n 2, 1) := by decide +kernel
theorem dX7_give_12 : decode cX7_give 12 = .ok (.invokevirtual 90, 3) := by decide +kernel
theorem dX7_give_15 : decode cX7_give 15 = .ok (.aload_n 0, 1) := by decide +kernel
theorem dX7_give_16 : decode cX7_give 16 = .ok (.getfield 23, 3) := by decide +kernel
theorem dX7_give_19 : decode cX7_give 19 = .ok (.iload_n 1, 1) := by decide +kernel
theorem dX7_give_20 : decode cX7_give 20 = .ok (.aaload, 1) := by decide +kernel
theorem dX7_give_21 : decode cX7_give 21 = .ok (.astore_n 3, 1) := by decide +kernel
theorem dX7_give_22 : decode cX7_give 22 = .ok (.iload_n 2, 1) := by decide +kernel
theorem dX7_give_23 : decode cX7_give 23 = .ok (.iconst (-1), 1) := by decide +kernel
theorem dX7_give_24 : decode cX7_give 24 = .ok (.if_icmp .ne 7, 3) := by decide +kernel
theorem dX7_give_27 : decode cX7_give 27 = .ok (.aconst_null, 1) := by decide +kernel
theorem dX7_give_28 : decode cX7_give 28 = .ok (.goto 9, 3) := by decide +kernel
theorem dX7_give_31 : decode cX7_give 31 = .ok (.aload_n 0, 1) := by decide +kernel
theorem dX7_give_32 : decode cX7_give 32 = .ok (.getfield 11, 3) := by decide +kernel
theorem dX7_give_35 : decode cX7_give 35 = .ok (.iload_n 2, 1) := by decide +kernel
theorem dX7_give_36 : decode cX7_give 36 = .ok (.aaload, 1) := by decide +kernel
theorem dX7_give_37 : decode cX7_give 37 = .ok (.astore 4, 2) := by decide +kernel
theorem dX7_give_39 : decode cX7_give 39 = .ok (.aload 4, 2) := by decide +kernel
theorem dX7_give_41 : decode cX7_give 41 = .ok (.ifnull 25, 3) := by decide +kernel
theorem dX7_give_44 : decode cX7_give 44 = .ok (.aload 4, 2) := by decide +kernel
theorem dX7_give_46 : decode cX7_give 46 = .ok (.getfield 187, 3) := by decide +kernel
theorem dX7_give_49 : decode cX7_give 49 = .ok (.aload_n 3, 1) := by decide +kernel
theorem dX7_give_50 : decode cX7_give 50 = .ok (.getfield 190, 3) := by decide +kernel
theorem dX7_give_53 : decode cX7_give 53 = .ok (.if_icmp .eq 13, 3) := by decide +kernel
theorem dX7_give_56 : decode cX7_give 56 = .ok (.new 100, 3) := by decide +kernel
theorem dX7_give_59 : decode cX7_give 59 = .ok (.dup, 1) := by decide +kernel
theorem dX7_give_60 : decode cX7_give 60 = .ok (.ldc 193, 2) := by decide +kernel
theorem dX7_give_62 : decode cX7_give 62 = .ok (.invokespecial 104, 3) := by decide +kernel
theorem dX7_give_65 : decode cX7_give 65 = .ok (.athrow, 1) := by decide +kernel
theorem dX7_give_66 : decode cX7_give 66 = .ok (.aload_n 3, 1) := by decide +kernel
theorem dX7_give_67 : decode cX7_give 67 = .ok (.invokevirtual 195, 3) := by decide +kernel
theorem dX7_give_70 : decode cX7_give 70 = .ok (.istore 5, 2) := by decide +kernel
theorem dX7_give_72 : decode cX7_give 72 = .ok (.aload_n 3, 1) := by decide +kernel
theorem dX7_give_73 : decode cX7_give 73 = .ok (.aload 4, 2) := by decide +kernel
theorem dX7_give_75 : decode cX7_give 75 = .ok (.putfield 199, 3) := by decide +kernel
theorem dX7_give_78 : decode cX7_give 78 = .ok (.iload 5, 2) := by decide +kernel
theorem dX7_give_80 : decode cX7_give 80 = .ok (.ireturn, 1) := by decide +kernel
theorem dX7_absent_0 : decode cX7_absent 0 = .ok (.aload_n 0, 1) := by decide +kernel
theorem dX7_absent_1 : decode cX7_absent 1 = .ok (.iload_n 1, 1) := by decide +kernel
theorem dX7_absent_2 : decode cX7_absent 2 = .ok (.invokevirtual 184, 3) := by decide +kernel
theorem dX7_absent_5 : decode cX7_absent 5 = .ok (.aload_n 0, 1) := by decide +kernel
theorem dX7_absent_6 : decode cX7_absent 6 = .ok (.getfield 23, 3) := by decide +kernel
theorem dX7_absent_9 : decode cX7_absent 9 = .ok (.iload_n 1, 1) := by decide +kernel
theorem dX7_absent_10 : decode cX7_absent 10 = .ok (.aaload, 1) := by decide +kernel
theorem dX7_absent_11 : decode cX7_absent 11 = .ok (.getfield 202, 3) := by decide +kernel
theorem dX7_absent_14 : decode cX7_absent 14 = .ok (.istore_n 3, 1) := by decide +kernel
theorem dX7_absent_15 : decode cX7_absent 15 = .ok (.aload_n 0, 1) := by decide +kernel
theorem dX7_absent_16 : decode cX7_absent 16 = .ok (.getfield 23, 3) := by decide +kernel
theorem dX7_absent_19 : decode cX7_absent 19 = .ok (.iload_n 1, 1) := by decide +kernel
theorem dX7_absent_20 : decode cX7_absent 20 = .ok (.aaload, 1) := by decide +kernel
theorem dX7_absent_21 : decode cX7_absent 21 = .ok (.iload_n 2, 1) := by decide +kernel
theorem dX7_absent_22 : decode cX7_absent 22 = .ok (.putfield 202, 3) := by decide +kernel
theorem dX7_absent_25 : decode cX7_absent 25 = .ok (.iload_n 3, 1) := by decide +kernel
theorem dX7_absent_26 : decode cX7_absent 26 = .ok (.ireturn, 1) := by decide +kernel
theorem dX7_teach_0 : decode cX7_teach 0 = .ok (.aload_n 0, 1) := by decide +kernel
theorem dX7_teach_1 : decode cX7_teach 1 = .ok (.iload_n 1, 1) := by decide +kernel
theorem dX7_teach_2 : decode cX7_teach 2 = .ok (.invokevirtual 184, 3) := by decide +kernel
theorem dX7_teach_5 : decode cX7_teach 5 = .ok (.aload_n 0, 1) := by decide +kernel
theorem dX7_teach_6 : decode cX7_teach 6 = .ok (.iload_n 2, 1) := by decide +kernel
theorem dX7_teach_7 : decode cX7_teach 7 = .ok (.invokevirtual 141, 3) := by decide +kernel
theorem dX7_teach_10 : decode cX7_teach 10 = .ok (.iload_n 3, 1) := by decide +kernel
theorem dX7_teach_11 : decode cX7_teach 11 = .ok (.invokestatic 205, 3) := by decide +kernel
theorem dX7_teach_14 : decode cX7_teach 14 = .ok (.aload_n 0, 1) := by decide +kernel
theorem dX7_teach_15 : decode cX7_teach 15 = .ok (.getfield 23, 3) := by decide +kernel
theorem dX7_teach_18 : decode cX7_teach 18 = .ok (.iload_n 1, 1) := by decide +kernel
theorem dX7_teach_19 : decode cX7_teach 19 = .ok (.aaload, 1) := by decide +kernel
theorem dX7_teach_20 : decode cX7_teach 20 = .ok (.astore 4, 2) := by decide +kernel
theorem dX7_teach_22 : decode cX7_teach 22 = .ok (.aload_n 0, 1) := by decide +kernel
theorem dX7_teach_23 : decode cX7_teach 23 = .ok (.getfield 17, 3) := by decide +kernel
theorem dX7_teach_26 : decode cX7_teach 26 = .ok (.iload_n 2, 1) := by decide +kernel
theorem dX7_teach_27 : decode cX7_teach 27 = .ok (.aaload, 1) := by decide +kernel
theorem dX7_teach_28 : decode cX7_teach 28 = .ok (.getfield 208, 3) := by decide +kernel
theorem dX7_teach_31 : decode cX7_teach 31 = .ok (.aload 4, 2) := by decide +kernel
theorem dX7_teach_33 : decode cX7_teach 33 = .ok (.getfield 190, 3) := by decide +kernel
theorem dX7_teach_36 : decode cX7_teach 36 = .ok (.if_icmp .eq 13, 3) := by decide +kernel
theorem dX7_teach_39 : decode cX7_teach 39 = .ok (.new 100, 3) := by decide +kernel
theorem dX7_teach_42 : decode cX7_teach 42 = .ok (.dup, 1) := by decide +kernel
theorem dX7_teach_43 : decode cX7_teach 43 = .ok (.ldc 209, 2) := by decide +kernel
theorem dX7_teach_45 : decode cX7_teach 45 = .ok (.invokespecial 104, 3) := by decide +kernel
theorem dX7_teach_48 : decode cX7_teach 48 = .ok (.athrow, 1) := by decide +kernel
theorem dX7_teach_49 : decode cX7_teach 49 = .ok (.aload 4, 2) := by decide +kernel
theorem dX7_teach_51 : decode cX7_teach 51 = .ok (.getfield 202, 3) := by decide +kernel
theorem dX7_teach_54 : decode cX7_teach 54 = .ok (.ifCond .eq 13, 3) := by decide +kernel
theorem dX7_teach_57 : decode cX7_teach 57 = .ok (.new 83, 3) := by decide +kernel
theorem dX7_teach_60 : decode cX7_teach 60 = .ok (.dup, 1) := by decide +kernel
theorem dX7_teach_61 : decode cX7_teach 61 = .ok (.ldc 211, 2) := by decide +kernel
theorem dX7_teach_63 : decode cX7_teach 63 = .ok (.invokespecial 87, 3) := by decide +kernel
theorem dX7_teach_66 : decode cX7_teach 66 = .ok (.athrow, 1) := by decide +kernel
theorem dX7_teach_67 : decode cX7_teach 67 = .ok (.aload_n 0, 1) := by decide +kernel
theorem dX7_teach_68 : decode cX7_teach 68 = .ok (.getfield 44, 3) := by decide +kernel
theorem dX7_teach_71 : decode cX7_teach 71 = .ok (.getfield 213, 3) := by decide +kernel
theorem dX7_teach_74 : decode cX7_teach 74 = .ok (.aload 4, 2) := by decide +kernel
theorem dX7_teach_76 : decode cX7_teach 76 = .ok (.getfield 190, 3) := by decide +kernel
theorem dX7_teach_79 : decode cX7_teach 79 = .ok (.iaload, 1) := by decide +kernel
theorem dX7_teach_80 : decode cX7_teach 80 = .ok (.iload_n 3, 1) := by decide +kernel
theorem dX7_teach_81 : decode cX7_teach 81 = .ok (.iadd, 1) := by decide +kernel
theorem dX7_teach_82 : decode cX7_teach 82 = .ok (.bipush 90, 2) := by decide +kernel
theorem dX7_teach_84 : decode cX7_teach 84 = .ok (.if_icmp .le 13, 3) := by decide +kernel
theorem dX7_teach_87 : decode cX7_teach 87 = .ok (.new 83, 3) := by decide +kernel
theorem dX7_teach_90 : decode cX7_teach 90 = .ok (.dup, 1) := by decide +kernel
theorem dX7_teach_91 : decode cX7_teach 91 = .ok (.ldc 216, 2) := by decide +kernel
theorem dX7_teach_93 : decode cX7_teach 93 = .ok (.invokespecial 87, 3) := by decide +kernel
theorem dX7_teach_96 : decode cX7_teach 96 = .ok (.athrow, 1) := by decide +kernel
theorem dX7_teach_97 : decode cX7_teach 97 = .ok (.aload_n 0, 1) := by decide +kernel
theorem dX7_teach_98 : decode cX7_teach 98 = .ok (.getfield 44, 3) := by decide +kernel
theorem dX7_teach_101 : decode cX7_teach 101 = .ok (.getfield 213, 3) := by decide +kernel
theorem dX7_teach_104 : decode cX7_teach 104 = .ok (.aload 4, 2) := by decide +kernel
theorem dX7_teach_106 : decode cX7_teach 106 = .ok (.getfield 190, 3) := by decide +kernel
theorem dX7_teach_109 : decode cX7_teach 109 = .ok (.dup2, 1) := by decide +kernel
theorem dX7_teach_110 : decode cX7_teach 110 = .ok (.iaload, 1) := by decide +kernel
theorem dX7_teach_111 : decode cX7_teach 111 = .ok (.iload_n 3, 1) := by decide +kernel
theorem dX7_teach_112 : decode cX7_teach 112 = .ok (.iadd, 1) := by decide +kernel
theorem dX7_teach_113 : decode cX7_teach 113 = .ok (.iastore, 1) := by decide +kernel
theorem dX7_teach_114 : decode cX7_teach 114 = .ok (.aload 4, 2) := by decide +kernel
theorem dX7_teach_116 : decode cX7_teach 116 = .ok (.dup, 1) := by decide +kernel
theorem dX7_teach_117 : decode cX7_teach 117 = .ok (.getfield 218, 3) := by decide +kernel
theorem dX7_teach_120 : decode cX7_teach 120 = .ok (.iload_n 3, 1) := by decide +kernel
theorem dX7_teach_121 : decode cX7_teach 121 = .ok (.iadd, 1) := by decide +kernel
theorem dX7_teach_122 : decode cX7_teach 122 = .ok (.putfield 218, 3) := by decide +kernel
theorem dX7_teach_125 : decode cX7_teach 125 = .ok (.aload_n 0, 1) := by decide +kernel
theorem dX7_teach_126 : decode cX7_teach 126 = .ok (.aload_n 0, 1) := by decide +kernel
theorem dX7_teach_127 : decode cX7_teach 127 = .ok (.getfield 37, 3) := by decide +kernel
theorem dX7_teach_130 : decode cX7_teach 130 = .ok (.iload_n 1, 1) := by decide +kernel
theorem dX7_teach_131 : decode cX7_teach 131 = .ok (.iload_n 2, 1) := by decide +kernel
theorem dX7_teach_132 : decode cX7_teach 132 = .ok (.iload_n 3, 1) := by decide +kernel
theorem dX7_teach_133 : decode cX7_teach 133 = .ok (.invokevirtual 221, 3) := by decide +kernel
theorem dX7_teach_136 : decode cX7_teach 136 = .ok (.aload_n 0, 1) := by decide +kernel
theorem dX7_teach_137 : decode cX7_teach 137 = .ok (.getfield 37, 3) := by decide +kernel
theorem dX7_teach_140 : decode cX7_teach 140 = .ok (.getfield 225, 3) := by decide +kernel
theorem dX7_teach_143 : decode cX7_teach 143 = .ok (.iload_n 1, 1) := by decide +kernel
theorem dX7_teach_144 : decode cX7_teach 144 = .ok (.aaload, 1) := by decide +kernel
theorem dX7_teach_145 : decode cX7_teach 145 = .ok (.iload_n 2, 1) := by decide +kernel
theorem dX7_teach_146 : decode cX7_teach 146 = .ok (.iaload, 1) := by decide +kernel
theorem dX7_teach_147 : decode cX7_teach 147 = .ok (.ireturn, 1) := by decide +kernel
theorem dX7_rehearse_0 : decode cX7_rehearse 0 = .ok (.iload_n 1, 1) := by decide +kernel
theorem dX7_rehearse_1 : decode cX7_rehearse 1 = .ok (.bipush 10, 2) := by decide +kernel
theorem dX7_rehearse_3 : decode cX7_rehearse 3 = .ok (.bipush 120, 2) := by decide +kernel
theorem dX7_rehearse_5 : decode cX7_rehearse 5 = .ok (.invokestatic 96, 3) := by decide +kernel
theorem dX7_rehearse_8 : decode cX7_rehearse 8 = .ok (.ifCond .ne 13, 3) := by decide +kernel
theorem dX7_rehearse_11 : decode cX7_rehearse 11 = .ok (.new 100, 3) := by decide +kernel
theorem dX7_rehearse_14 : decode cX7_rehearse 14 = .ok (.dup, 1) := by decide +kernel
theorem dX7_rehearse_15 : decode cX7_rehearse 15 = .ok (.ldc 229, 2) := by decide +kernel
theorem dX7_rehearse_17 : decode cX7_rehearse 17 = .ok (.invokespecial 104, 3) := by decide +kernel
theorem dX7_rehearse_20 : decode cX7_rehearse 20 = .ok (.athrow, 1) := by decide +kernel
theorem dX7_rehearse_21 : decode cX7_rehearse 21 = .ok (.aload_n 0, 1) := by decide +kernel
theorem dX7_rehearse_22 : decode cX7_rehearse 22 = .ok (.getfield 44, 3) := by decide +kernel
theorem dX7_rehearse_25 : decode cX7_rehearse 25 = .ok (.getfield 231, 3) := by decide +kernel
theorem dX7_rehearse_28 : decode cX7_rehearse 28 = .ok (.iload_n 1, 1) := by decide +kernel
theorem dX7_rehearse_29 : decode cX7_rehearse 29 = .ok (.iadd, 1) := by decide +kernel
theorem dX7_rehearse_30 : decode cX7_rehearse 30 = .ok (.bipush 120, 2) := by decide +kernel
theorem dX7_rehearse_32 : decode cX7_rehearse 32 = .ok (.if_icmp .le 13, 3) := by decide +kernel
theorem dX7_rehearse_35 : decode cX7_rehearse 35 = .ok (.new 83, 3) := by decide +kernel
theorem dX7_rehearse_38 : decode cX7_rehearse 38 = .ok (.dup, 1) := by decide +kernel
theorem dX7_rehearse_39 : decode cX7_rehearse 39 = .ok (.ldc 234, 2) := by decide +kernel
theorem dX7_rehearse_41 : decode cX7_rehearse 41 = .ok (.invokespecial 87, 3) := by decide +kernel
theorem dX7_rehearse_44 : decode cX7_rehearse 44 = .ok (.athrow, 1) := by decide +kernel
theorem dX7_rehearse_45 : decode cX7_rehearse 45 = .ok (.aload_n 0, 1) := by decide +kernel
theorem dX7_rehearse_46 : decode cX7_rehearse 46 = .ok (.getfield 44, 3) := by decide +kernel
theorem dX7_rehearse_49 : decode cX7_rehearse 49 = .ok (.dup, 1) := by decide +kernel
theorem dX7_rehearse_50 : decode cX7_rehearse 50 = .ok (.getfield 231, 3) := by decide +kernel
theorem dX7_rehearse_53 : decode cX7_rehearse 53 = .ok (.iload_n 1, 1) := by decide +kernel
theorem dX7_rehearse_54 : decode cX7_rehearse 54 = .ok (.iadd, 1) := by decide +kernel
theorem dX7_rehearse_55 : decode cX7_rehearse 55 = .ok (.putfield 231, 3) := by decide +kernel
theorem dX7_rehearse_58 : decode cX7_rehearse 58 = .ok (.iconst 0, 1) := by decide +kernel
theorem dX7_rehearse_59 : decode cX7_rehearse 59 = .ok (.istore_n 2, 1) := by decide +kernel
theorem dX7_rehearse_60 : decode cX7_rehearse 60 = .ok (.iload_n 2, 1) := by decide +kernel
theorem dX7_rehearse_61 : decode cX7_rehearse 61 = .ok (.aload_n 0, 1) := by decide +kernel
theorem dX7_rehearse_62 : decode cX7_rehearse 62 = .ok (.getfield 147, 3) := by decide +kernel
theorem dX7_rehearse_65 : decode cX7_rehearse 65 = .ok (.if_icmp .ge 33, 3) := by decide +kernel
theorem dX7_rehearse_68 : decode cX7_rehearse 68 = .ok (.aload_n 0, 1) := by decide +kernel
theorem dX7_rehearse_69 : decode cX7_rehearse 69 = .ok (.getfield 23, 3) := by decide +kernel
theorem dX7_rehearse_72 : decode cX7_rehearse 72 = .ok (.iload_n 2, 1) := by decide +kernel
theorem dX7_rehearse_73 : decode cX7_rehearse 73 = .ok (.aaload, 1) := by decide +kernel
theorem dX7_rehearse_74 : decode cX7_rehearse 74 = .ok (.invokevirtual 236, 3) := by decide +kernel
theorem dX7_rehearse_77 : decode cX7_rehearse 77 = .ok (.astore_n 3, 1) := by decide +kernel
theorem dX7_rehearse_78 : decode cX7_rehearse 78 = .ok (.aload_n 3, 1) := by decide +kernel
theorem dX7_rehearse_79 : decode cX7_rehearse 79 = .ok (.ifnull 13, 3) := by decide +kernel
theorem dX7_rehearse_82 : decode cX7_rehearse 82 = .ok (.aload_n 0, 1) := by decide +kernel
theorem dX7_rehearse_83 : decode cX7_rehearse 83 = .ok (.iload_n 2, 1) := by decide +kernel
theorem dX7_rehearse_84 : decode cX7_rehearse 84 = .ok (.aload_n 3, 1) := by decide +kernel
theorem dX7_rehearse_85 : decode cX7_rehearse 85 = .ok (.iload_n 1, 1) := by decide +kernel
theorem dX7_rehearse_86 : decode cX7_rehearse 86 = .ok (.bipush 10, 2) := by decide +kernel
theorem dX7_rehearse_88 : decode cX7_rehearse 88 = .ok (.idiv, 1) := by decide +kernel
theorem dX7_rehearse_89 : decode cX7_rehearse 89 = .ok (.invokevirtual 240, 3) := by decide +kernel
theorem dX7_rehearse_92 : decode cX7_rehearse 92 = .ok (.iinc 2 1, 3) := by decide +kernel
theorem dX7_rehearse_95 : decode cX7_rehearse 95 = .ok (.goto (-35), 3) := by decide +kernel
theorem dX7_rehearse_98 : decode cX7_rehearse 98 = .ok (.aload_n 0, 1) := by decide +kernel
theorem dX7_rehearse_99 : decode cX7_rehearse 99 = .ok (.invokevirtual 244, 3) := by decide +kernel
theorem dX7_rehearse_102 : decode cX7_rehearse 102 = .ok (.ireturn, 1) := by decide +kernel
theorem dX7_pass_0 : decode cX7_pass 0 = .ok (.iload_n 1, 1) := by decide +kernel
theorem dX7_pass_1 : decode cX7_pass 1 = .ok (.iconst 1, 1) := by decide +kernel
theorem dX7_pass_2 : decode cX7_pass 2 = .ok (.bipush 30, 2) := by decide +kernel
theorem dX7_pass_4 : decode cX7_pass 4 = .ok (.invokestatic 96, 3) := by decide +kernel
theorem dX7_pass_7 : decode cX7_pass 7 = .ok (.ifCond .ne 13, 3) := by decide +kernel
theorem dX7_pass_10 : decode cX7_pass 10 = .ok (.new 100, 3) := by decide +kernel
theorem dX7_pass_13 : decode cX7_pass 13 = .ok (.dup, 1) := by decide +kernel
theorem dX7_pass_14 : decode cX7_pass 14 = .ok (.ldc 247, 2) := by decide +kernel
theorem dX7_pass_16 : decode cX7_pass 16 = .ok (.invokespecial 104, 3) := by decide +kernel
theorem dX7_pass_19 : decode cX7_pass 19 = .ok (.athrow, 1) := by decide +kernel
theorem dX7_pass_20 : decode cX7_pass 20 = .ok (.iload_n 2, 1) := by decide +kernel
theorem dX7_pass_21 : decode cX7_pass 21 = .ok (.iconst 0, 1) := by decide +kernel
theorem dX7_pass_22 : decode cX7_pass 22 = .ok (.bipush 9, 2) := by decide +kernel
theorem dX7_pass_24 : decode cX7_pass 24 = .ok (.invokestatic 96, 3) := by decide +kernel
theorem dX7_pass_27 : decode cX7_pass 27 = .ok (.ifCond .eq 13, 3) := by decide +kernel
theorem dX7_pass_30 : decode cX7_pass 30 = .ok (.iload_n 3, 1) := by decide +kernel
theorem dX7_pass_31 : decode cX7_pass 31 = .ok (.iconst 0, 1) := by decide +kernel
theorem dX7_pass_32 : decode cX7_pass 32 = .ok (.bipush 9, 2) := by decide +kernel
theorem dX7_pass_34 : decode cX7_pass 34 = .ok (.invokestatic 96, 3) := by decide +kernel
theorem dX7_pass_37 : decode cX7_pass 37 = .ok (.ifCond .ne 13, 3) := by decide +kernel
theorem dX7_pass_40 : decode cX7_pass 40 = .ok (.new 100, 3) := by decide +kernel
theorem dX7_pass_43 : decode cX7_pass 43 = .ok (.dup, 1) := by decide +kernel
theorem dX7_pass_44 : decode cX7_pass 44 = .ok (.ldc 249, 2) := by decide +kernel
theorem dX7_pass_46 : decode cX7_pass 46 = .ok (.invokespecial 104, 3) := by decide +kernel
theorem dX7_pass_49 : decode cX7_pass 49 = .ok (.athrow, 1) := by decide +kernel
theorem dX7_pass_50 : decode cX7_pass 50 = .ok (.iconst 0, 1) := by decide +kernel
theorem dX7_pass_51 : decode cX7_pass 51 = .ok (.istore 4, 2) := by decide +kernel
theorem dX7_pass_53 : decode cX7_pass 53 = .ok (.iload 4, 2) := by decide +kernel
theorem dX7_pass_55 : decode cX7_pass 55 = .ok (.iload_n 1, 1) := by decide +kernel
theorem dX7_pass_56 : decode cX7_pass 56 = .ok (.if_icmp .ge 37, 3) := by decide +kernel
theorem dX7_pass_59 : decode cX7_pass 59 = .ok (.aload_n 0, 1) := by decide +kernel
theorem dX7_pass_60 : decode cX7_pass 60 = .ok (.getfield 37, 3) := by decide +kernel
theorem dX7_pass_63 : decode cX7_pass 63 = .ok (.aload_n 0, 1) := by decide +kernel
theorem dX7_pass_64 : decode cX7_pass 64 = .ok (.getfield 17, 3) := by decide +kernel
theorem dX7_pass_67 : decode cX7_pass 67 = .ok (.aload_n 0, 1) := by decide +kernel
theorem dX7_pass_68 : decode cX7_pass 68 = .ok (.getfield 133, 3) := by decide +kernel
theorem dX7_pass_71 : decode cX7_pass 71 = .ok (.invokevirtual 251, 3) := by decide +kernel
theorem dX7_pass_74 : decode cX7_pass 74 = .ok (.aload_n 0, 1) := by decide +kernel
theorem dX7_pass_75 : decode cX7_pass 75 = .ok (.iload_n 2, 1) := by decide +kernel
theorem dX7_pass_76 : decode cX7_pass 76 = .ok (.iload_n 3, 1) := by decide +kernel
theorem dX7_pass_77 : decode cX7_pass 77 = .ok (.invokevirtual 255, 3) := by decide +kernel
theorem dX7_pass_80 : decode cX7_pass 80 = .ok (.aload_n 0, 1) := by decide +kernel
theorem dX7_pass_81 : decode cX7_pass 81 = .ok (.getfield 44, 3) := by decide +kernel
theorem dX7_pass_84 : decode cX7_pass 84 = .ok (.invokevirtual 258, 3) := by decide +kernel
theorem dX7_pass_87 : decode cX7_pass 87 = .ok (.iinc 4 1, 3) := by decide +kernel
theorem dX7_pass_90 : decode cX7_pass 90 = .ok (.goto (-37), 3) := by decide +kernel
theorem dX7_pass_93 : decode cX7_pass 93 = .ok (.aload_n 0, 1) := by decide +kernel
theorem dX7_pass_94 : decode cX7_pass 94 = .ok (.getfield 44, 3) := by decide +kernel
theorem dX7_pass_97 : decode cX7_pass 97 = .ok (.getfield 261, 3) := by decide +kernel
theorem dX7_pass_100 : decode cX7_pass 100 = .ok (.ireturn, 1) := by decide +kernel
theorem dX7_sponsor_0 : decode cX7_sponsor 0 = .ok (.iload_n 1, 1) := by decide +kernel
theorem dX7_sponsor_1 : decode cX7_sponsor 1 = .ok (.iconst 1, 1) := by decide +kernel
theorem dX7_sponsor_2 : decode cX7_sponsor 2 = .ok (.sipush 500, 3) := by decide +kernel
theorem dX7_sponsor_5 : decode cX7_sponsor 5 = .ok (.invokestatic 96, 3) := by decide +kernel
theorem dX7_sponsor_8 : decode cX7_sponsor 8 = .ok (.ifCond .ne 14, 3) := by decide +kernel
theorem dX7_sponsor_11 : decode cX7_sponsor 11 = .ok (.new 100, 3) := by decide +kernel
theorem dX7_sponsor_14 : decode cX7_sponsor 14 = .ok (.dup, 1) := by decide +kernel
theorem dX7_sponsor_15 : decode cX7_sponsor 15 = .ok (.ldc_w 264, 3) := by decide +kernel
theorem dX7_sponsor_18 : decode cX7_sponsor 18 = .ok (.invokespecial 104, 3) := by decide +kernel
theorem dX7_sponsor_21 : decode cX7_sponsor 21 = .ok (.athrow, 1) := by decide +kernel
theorem dX7_sponsor_22 : decode cX7_sponsor 22 = .ok (.aload_n 0, 1) := by decide +kernel
theorem dX7_sponsor_23 : decode cX7_sponsor 23 = .ok (.dup, 1) := by decide +kernel
theorem dX7_sponsor_24 : decode cX7_sponsor 24 = .ok (.getfield 55, 3) := by decide +kernel
theorem dX7_sponsor_27 : decode cX7_sponsor 27 = .ok (.iload_n 1, 1) := by decide +kernel
theorem dX7_sponsor_28 : decode cX7_sponsor 28 = .ok (.iadd, 1) := by decide +kernel
theorem dX7_sponsor_29 : decode cX7_sponsor 29 = .ok (.putfield 55, 3) := by decide +kernel
theorem dX7_sponsor_32 : decode cX7_sponsor 32 = .ok (.aload_n 0, 1) := by decide +kernel
theorem dX7_sponsor_33 : decode cX7_sponsor 33 = .ok (.getfield 55, 3) := by decide +kernel
theorem dX7_sponsor_36 : decode cX7_sponsor 36 = .ok (.ireturn, 1) := by decide +kernel
theorem dX7_rival_0 : decode cX7_rival 0 = .ok (.iload_n 1, 1) := by decide +kernel
theorem dX7_rival_1 : decode cX7_rival 1 = .ok (.iconst 0, 1) := by decide +kernel
theorem dX7_rival_2 : decode cX7_rival 2 = .ok (.sipush 400, 3) := by decide +kernel
theorem dX7_rival_5 : decode cX7_rival 5 = .ok (.invokestatic 96, 3) := by decide +kernel
theorem dX7_rival_8 : decode cX7_rival 8 = .ok (.ifCond .ne 14, 3) := by decide +kernel
theorem dX7_rival_11 : decode cX7_rival 11 = .ok (.new 100, 3) := by decide +kernel
theorem dX7_rival_14 : decode cX7_rival 14 = .ok (.dup, 1) := by decide +kernel
theorem dX7_rival_15 : decode cX7_rival 15 = .ok (.ldc_w 266, 3) := by decide +kernel
theorem dX7_rival_18 : decode cX7_rival 18 = .ok (.invokespecial 104, 3) := by decide +kernel
theorem dX7_rival_21 : decode cX7_rival 21 = .ok (.athrow, 1) := by decide +kernel
theorem dX7_rival_22 : decode cX7_rival 22 = .ok (.aload_n 0, 1) := by decide +kernel
theorem dX7_rival_23 : decode cX7_rival 23 = .ok (.getfield 51, 3) := by decide +kernel
theorem dX7_rival_26 : decode cX7_rival 26 = .ok (.getfield 268, 3) := by decide +kernel
theorem dX7_rival_29 : decode cX7_rival 29 = .ok (.bipush 6, 2) := by decide +kernel
theorem dX7_rival_31 : decode cX7_rival 31 = .ok (.if_icmp .lt 14, 3) := by decide +kernel
theorem dX7_rival_34 : decode cX7_rival 34 = .ok (.new 83, 3) := by decide +kernel
theorem dX7_rival_37 : decode cX7_rival 37 = .ok (.dup, 1) := by decide +kernel
theorem dX7_rival_38 : decode cX7_rival 38 = .ok (.ldc_w 271, 3) := by decide +kernel
theorem dX7_rival_41 : decode cX7_rival 41 = .ok (.invokespecial 87, 3) := by decide +kernel
theorem dX7_rival_44 : decode cX7_rival 44 = .ok (.athrow, 1) := by decide +kernel
theorem dX7_rival_45 : decode cX7_rival 45 = .ok (.aload_n 0, 1) := by decide +kernel
theorem dX7_rival_46 : decode cX7_rival 46 = .ok (.getfield 51, 3) := by decide +kernel
theorem dX7_rival_49 : decode cX7_rival 49 = .ok (.getfield 268, 3) := by decide +kernel
theorem dX7_rival_52 : decode cX7_rival 52 = .ok (.istore_n 2, 1) := by decide +kernel
theorem dX7_rival_53 : decode cX7_rival 53 = .ok (.aload_n 0, 1) := by decide +kernel
theorem dX7_rival_54 : decode cX7_rival 54 = .ok (.getfield 51, 3) := by decide +kernel
theorem dX7_rival_57 : decode cX7_rival 57 = .ok (.getfield 273, 3) := by decide +kernel
theorem dX7_rival_60 : decode cX7_rival 60 = .ok (.iload_n 2, 1) := by decide +kernel
theorem dX7_rival_61 : decode cX7_rival 61 = .ok (.iload_n 1, 1) := by decide +kernel
theorem dX7_rival_62 : decode cX7_rival 62 = .ok (.iastore, 1) := by decide +kernel
theorem dX7_rival_63 : decode cX7_rival 63 = .ok (.aload_n 0, 1) := by decide +kernel
theorem dX7_rival_64 : decode cX7_rival 64 = .ok (.getfield 51, 3) := by decide +kernel
theorem dX7_rival_67 : decode cX7_rival 67 = .ok (.dup, 1) := by decide +kernel
theorem dX7_rival_68 : decode cX7_rival 68 = .ok (.getfield 268, 3) := by decide +kernel
theorem dX7_rival_71 : decode cX7_rival 71 = .ok (.iconst 1, 1) := by decide +kernel
theorem dX7_rival_72 : decode cX7_rival 72 = .ok (.iadd, 1) := by decide +kernel
theorem dX7_rival_73 : decode cX7_rival 73 = .ok (.putfield 268, 3) := by decide +kernel
theorem dX7_rival_76 : decode cX7_rival 76 = .ok (.iload_n 2, 1) := by decide +kernel
theorem dX7_rival_77 : decode cX7_rival 77 = .ok (.ireturn, 1) := by decide +kernel
theorem dX7_lean_0 : decode cX7_lean 0 = .ok (.iload_n 1, 1) := by decide +kernel
theorem dX7_lean_1 : decode cX7_lean 1 = .ok (.iconst 0, 1) := by decide +kernel
theorem dX7_lean_2 : decode cX7_lean 2 = .ok (.iconst 2, 1) := by decide +kernel
theorem dX7_lean_3 : decode cX7_lean 3 = .ok (.invokestatic 96, 3) := by decide +kernel
theorem dX7_lean_6 : decode cX7_lean 6 = .ok (.ifCond .ne 14, 3) := by decide +kernel
theorem dX7_lean_9 : decode cX7_lean 9 = .ok (.new 276, 3) := by decide +kernel
theorem dX7_lean_12 : decode cX7_lean 12 = .ok (.dup, 1) := by decide +kernel
theorem dX7_lean_13 : decode cX7_lean 13 = .ok (.ldc_w 278, 3) := by decide +kernel
theorem dX7_lean_16 : decode cX7_lean 16 = .ok (.invokespecial 280, 3) := by decide +kernel
theorem dX7_lean_19 : decode cX7_lean 19 = .ok (.athrow, 1) := by decide +kernel
theorem dX7_lean_20 : decode cX7_lean 20 = .ok (.iload_n 2, 1) := by decide +kernel
theorem dX7_lean_21 : decode cX7_lean 21 = .ok (.bipush (-9), 2) := by decide +kernel
theorem dX7_lean_23 : decode cX7_lean 23 = .ok (.bipush 9, 2) := by decide +kernel
theorem dX7_lean_25 : decode cX7_lean 25 = .ok (.invokestatic 96, 3) := by decide +kernel
theorem dX7_lean_28 : decode cX7_lean 28 = .ok (.ifCond .ne 14, 3) := by decide +kernel
theorem dX7_lean_31 : decode cX7_lean 31 = .ok (.new 100, 3) := by decide +kernel
theorem dX7_lean_34 : decode cX7_lean 34 = .ok (.dup, 1) := by decide +kernel
theorem dX7_lean_35 : decode cX7_lean 35 = .ok (.ldc_w 281, 3) := by decide +kernel
theorem dX7_lean_38 : decode cX7_lean 38 = .ok (.invokespecial 104, 3) := by decide +kernel
theorem dX7_lean_41 : decode cX7_lean 41 = .ok (.athrow, 1) := by decide +kernel
theorem dX7_lean_42 : decode cX7_lean 42 = .ok (.aload_n 0, 1) := by decide +kernel
theorem dX7_lean_43 : decode cX7_lean 43 = .ok (.getfield 51, 3) := by decide +kernel
theorem dX7_lean_46 : decode cX7_lean 46 = .ok (.getfield 283, 3) := by decide +kernel
theorem dX7_lean_49 : decode cX7_lean 49 = .ok (.iload_n 1, 1) := by decide +kernel
theorem dX7_lean_50 : decode cX7_lean 50 = .ok (.iaload, 1) := by decide +kernel
theorem dX7_lean_51 : decode cX7_lean 51 = .ok (.istore_n 3, 1) := by decide +kernel
theorem dX7_lean_52 : decode cX7_lean 52 = .ok (.aload_n 0, 1) := by decide +kernel
theorem dX7_lean_53 : decode cX7_lean 53 = .ok (.getfield 51, 3) := by decide +kernel
theorem dX7_lean_56 : decode cX7_lean 56 = .ok (.getfield 283, 3) := by decide +kernel
theorem dX7_lean_59 : decode cX7_lean 59 = .ok (.iload_n 1, 1) := by decide +kernel
theorem dX7_lean_60 : decode cX7_lean 60 = .ok (.iload_n 2, 1) := by decide +kernel
theorem dX7_lean_61 : decode cX7_lean 61 = .ok (.iastore, 1) := by decide +kernel
theorem dX7_lean_62 : decode cX7_lean 62 = .ok (.iload_n 3, 1) := by decide +kernel
theorem dX7_lean_63 : decode cX7_lean 63 = .ok (.ireturn, 1) := by decide +kernel
theorem dX7_play_0 : decode cX7_play 0 = .ok (.aload_n 0, 1) := by decide +kernel
theorem dX7_play_1 : decode cX7_play 1 = .ok (.getfield 51, 3) := by decide +kernel
theorem dX7_play_4 : decode cX7_play 4 = .ok (.invokevirtual 286, 3) := by decide +kernel
theorem dX7_play_7 : decode cX7_play 7 = .ok (.ifCond .eq 14, 3) := by decide +kernel
theorem dX7_play_10 : decode cX7_play 10 = .ok (.new 83, 3) := by decide +kernel
theorem dX7_play_13 : decode cX7_play 13 = .ok (.dup, 1) := by decide +kernel
theorem dX7_play_14 : decode cX7_play 14 = .ok (.ldc_w 290, 3) := by decide +kernel
theorem dX7_play_17 : decode cX7_play 17 = .ok (.invokespecial 87, 3) := by decide +kernel
theorem dX7_play_20 : decode cX7_play 20 = .ok (.athrow, 1) := by decide +kernel
theorem dX7_play_21 : decode cX7_play 21 = .ok (.aload_n 0, 1) := by decide +kernel
theorem dX7_play_22 : decode cX7_play 22 = .ok (.getfield 44, 3) := by decide +kernel
theorem dX7_play_25 : decode cX7_play 25 = .ok (.getfield 292, 3) := by decide +kernel
theorem dX7_play_28 : decode cX7_play 28 = .ok (.ifCond .eq 14, 3) := by decide +kernel
theorem dX7_play_31 : decode cX7_play 31 = .ok (.new 83, 3) := by decide +kernel
theorem dX7_play_34 : decode cX7_play 34 = .ok (.dup, 1) := by decide +kernel
theorem dX7_play_35 : decode cX7_play 35 = .ok (.ldc_w 295, 3) := by decide +kernel
theorem dX7_play_38 : decode cX7_play 38 = .ok (.invokespecial 87, 3) := by decide +kernel
theorem dX7_play_41 : decode cX7_play 41 = .ok (.athrow, 1) := by decide +kernel
theorem dX7_play_42 : decode cX7_play 42 = .ok (.aload_n 0, 1) := by decide +kernel
theorem dX7_play_43 : decode cX7_play 43 = .ok (.invokevirtual 244, 3) := by decide +kernel
theorem dX7_play_46 : decode cX7_play 46 = .ok (.ifCond .eq 13, 3) := by decide +kernel
theorem dX7_play_49 : decode cX7_play 49 = .ok (.aload_n 0, 1) := by decide +kernel
theorem dX7_play_50 : decode cX7_play 50 = .ok (.getfield 30, 3) := by decide +kernel
theorem dX7_play_53 : decode cX7_play 53 = .ok (.getfield 160, 3) := by decide +kernel
theorem dX7_play_56 : decode cX7_play 56 = .ok (.ifCond .ne 14, 3) := by decide +kernel
theorem dX7_play_59 : decode cX7_play 59 = .ok (.new 83, 3) := by decide +kernel
theorem dX7_play_62 : decode cX7_play 62 = .ok (.dup, 1) := by decide +kernel
theorem dX7_play_63 : decode cX7_play 63 = .ok (.ldc_w 297, 3) := by decide +kernel
theorem dX7_play_66 : decode cX7_play 66 = .ok (.invokespecial 87, 3) := by decide +kernel
theorem dX7_play_69 : decode cX7_play 69 = .ok (.athrow, 1) := by decide +kernel
theorem dX7_play_70 : decode cX7_play 70 = .ok (.aload_n 0, 1) := by decide +kernel
theorem dX7_play_71 : decode cX7_play 71 = .ok (.getfield 51, 3) := by decide +kernel
theorem dX7_play_74 : decode cX7_play 74 = .ok (.getfield 299, 3) := by decide +kernel
theorem dX7_play_77 : decode cX7_play 77 = .ok (.istore_n 1, 1) := by decide +kernel
theorem dX7_play_78 : decode cX7_play 78 = .ok (.aload_n 0, 1) := by decide +kernel
theorem dX7_play_79 : decode cX7_play 79 = .ok (.getfield 51, 3) := by decide +kernel
theorem dX7_play_82 : decode cX7_play 82 = .ok (.aload_n 0, 1) := by decide +kernel
theorem dX7_play_83 : decode cX7_play 83 = .ok (.getfield 51, 3) := by decide +kernel
theorem dX7_play_86 : decode cX7_play 86 = .ok (.aload_n 0, 1) := by decide +kernel
theorem dX7_play_87 : decode cX7_play 87 = .ok (.invokevirtual 302, 3) := by decide +kernel
theorem dX7_play_90 : decode cX7_play 90 = .ok (.invokevirtual 305, 3) := by decide +kernel
theorem dX7_play_93 : decode cX7_play 93 = .ok (.invokevirtual 308, 3) := by decide +kernel
theorem dX7_play_96 : decode cX7_play 96 = .ok (.istore_n 2, 1) := by decide +kernel
theorem dX7_play_97 : decode cX7_play 97 = .ok (.aload_n 0, 1) := by decide +kernel
theorem dX7_play_98 : decode cX7_play 98 = .ok (.dup, 1) := by decide +kernel
theorem dX7_play_99 : decode cX7_play 99 = .ok (.getfield 55, 3) := by decide +kernel
theorem dX7_play_102 : decode cX7_play 102 = .ok (.bipush 50, 2) := by decide +kernel
theorem dX7_play_104 : decode cX7_play 104 = .ok (.iload_n 1, 1) := by decide +kernel
theorem dX7_play_105 : decode cX7_play 105 = .ok (.iload_n 2, 1) := by decide +kernel
theorem dX7_play_106 : decode cX7_play 106 = .ok (.invokestatic 311, 3) := by decide +kernel
theorem dX7_play_109 : decode cX7_play 109 = .ok (.iadd, 1) := by decide +kernel
theorem dX7_play_110 : decode cX7_play 110 = .ok (.iadd, 1) := by decide +kernel
theorem dX7_play_111 : decode cX7_play 111 = .ok (.putfield 55, 3) := by decide +kernel
theorem dX7_play_114 : decode cX7_play 114 = .ok (.aload_n 0, 1) := by decide +kernel
theorem dX7_play_115 : decode cX7_play 115 = .ok (.getfield 44, 3) := by decide +kernel
theorem dX7_play_118 : decode cX7_play 118 = .ok (.iconst 1, 1) := by decide +kernel
theorem dX7_play_119 : decode cX7_play 119 = .ok (.putfield 292, 3) := by decide +kernel
theorem dX7_play_122 : decode cX7_play 122 = .ok (.iload_n 2, 1) := by decide +kernel
theorem dX7_play_123 : decode cX7_play 123 = .ok (.ireturn, 1) := by decide +kernel
theorem dX7_ofPan_0 : decode cX7_ofPan 0 = .ok (.aload_n 0, 1) := by decide +kernel
theorem dX7_ofPan_1 : decode cX7_ofPan 1 = .ok (.iload_n 1, 1) := by decide +kernel
theorem dX7_ofPan_2 : decode cX7_ofPan 2 = .ok (.invokevirtual 90, 3) := by decide +kernel
theorem dX7_ofPan_5 : decode cX7_ofPan 5 = .ok (.aload_n 0, 1) := by decide +kernel
theorem dX7_ofPan_6 : decode cX7_ofPan 6 = .ok (.getfield 11, 3) := by decide +kernel
theorem dX7_ofPan_9 : decode cX7_ofPan 9 = .ok (.iload_n 1, 1) := by decide +kernel
theorem dX7_ofPan_10 : decode cX7_ofPan 10 = .ok (.aaload, 1) := by decide +kernel
theorem dX7_ofPan_11 : decode cX7_ofPan 11 = .ok (.astore_n 3, 1) := by decide +kernel
theorem dX7_ofPan_12 : decode cX7_ofPan 12 = .ok (.iload_n 2, 1) := by decide +kernel
theorem dX7_ofPan_13 : decode cX7_ofPan 13 = .ok (.tableswitch 68 0 4 #[35, 40, 45, 58, 63], 35) := by decide +kernel
theorem dX7_ofPan_48 : decode cX7_ofPan 48 = .ok (.aload_n 3, 1) := by decide +kernel
theorem dX7_ofPan_49 : decode cX7_ofPan 49 = .ok (.getfield 187, 3) := by decide +kernel
theorem dX7_ofPan_52 : decode cX7_ofPan 52 = .ok (.ireturn, 1) := by decide +kernel
theorem dX7_ofPan_53 : decode cX7_ofPan 53 = .ok (.aload_n 3, 1) := by decide +kernel
theorem dX7_ofPan_54 : decode cX7_ofPan 54 = .ok (.getfield 117, 3) := by decide +kernel
theorem dX7_ofPan_57 : decode cX7_ofPan 57 = .ok (.ireturn, 1) := by decide +kernel
theorem dX7_ofPan_58 : decode cX7_ofPan 58 = .ok (.aload_n 3, 1) := by decide +kernel
theorem dX7_ofPan_59 : decode cX7_ofPan 59 = .ok (.invokevirtual 315, 3) := by decide +kernel
theorem dX7_ofPan_62 : decode cX7_ofPan 62 = .ok (.ifCond .eq 7, 3) := by decide +kernel
theorem dX7_ofPan_65 : decode cX7_ofPan 65 = .ok (.iconst 1, 1) := by decide +kernel
theorem dX7_ofPan_66 : decode cX7_ofPan 66 = .ok (.goto 4, 3) := by decide +kernel
theorem dX7_ofPan_69 : decode cX7_ofPan 69 = .ok (.iconst 0, 1) := by decide +kernel
theorem dX7_ofPan_70 : decode cX7_ofPan 70 = .ok (.ireturn, 1) := by decide +kernel
theorem dX7_ofPan_71 : decode cX7_ofPan 71 = .ok (.aload_n 3, 1) := by decide +kernel
theorem dX7_ofPan_72 : decode cX7_ofPan 72 = .ok (.invokevirtual 318, 3) := by decide +kernel
theorem dX7_ofPan_75 : decode cX7_ofPan 75 = .ok (.ireturn, 1) := by decide +kernel
theorem dX7_ofPan_76 : decode cX7_ofPan 76 = .ok (.aload_n 3, 1) := by decide +kernel
theorem dX7_ofPan_77 : decode cX7_ofPan 77 = .ok (.getfield 321, 3) := by decide +kernel
theorem dX7_ofPan_80 : decode cX7_ofPan 80 = .ok (.ireturn, 1) := by decide +kernel
theorem dX7_ofPan_81 : decode cX7_ofPan 81 = .ok (.new 100, 3) := by decide +kernel
theorem dX7_ofPan_84 : decode cX7_ofPan 84 = .ok (.dup, 1) := by decide +kernel
theorem dX7_ofPan_85 : decode cX7_ofPan 85 = .ok (.ldc_w 324, 3) := by decide +kernel
theorem dX7_ofPan_88 : decode cX7_ofPan 88 = .ok (.invokespecial 104, 3) := by decide +kernel
theorem dX7_ofPan_91 : decode cX7_ofPan 91 = .ok (.athrow, 1) := by decide +kernel
theorem dX7_off_0 : decode cX7_off 0 = .ok (.aload_n 0, 1) := by decide +kernel
theorem dX7_off_1 : decode cX7_off 1 = .ok (.iload_n 1, 1) := by decide +kernel
theorem dX7_off_2 : decode cX7_off 2 = .ok (.invokevirtual 90, 3) := by decide +kernel
theorem dX7_off_5 : decode cX7_off 5 = .ok (.iload_n 2, 1) := by decide +kernel
theorem dX7_off_6 : decode cX7_off 6 = .ok (.invokestatic 93, 3) := by decide +kernel
theorem dX7_off_9 : decode cX7_off 9 = .ok (.aload_n 0, 1) := by decide +kernel
theorem dX7_off_10 : decode cX7_off 10 = .ok (.getfield 11, 3) := by decide +kernel
theorem dX7_off_13 : decode cX7_off 13 = .ok (.iload_n 1, 1) := by decide +kernel
theorem dX7_off_14 : decode cX7_off 14 = .ok (.aaload, 1) := by decide +kernel
theorem dX7_off_15 : decode cX7_off 15 = .ok (.getfield 111, 3) := by decide +kernel
theorem dX7_off_18 : decode cX7_off 18 = .ok (.iload_n 2, 1) := by decide +kernel
theorem dX7_off_19 : decode cX7_off 19 = .ok (.iaload, 1) := by decide +kernel
theorem dX7_off_20 : decode cX7_off 20 = .ok (.ireturn, 1) := by decide +kernel
theorem dX7_ofPhrase_0 : decode cX7_ofPhrase 0 = .ok (.aload_n 0, 1) := by decide +kernel
theorem dX7_ofPhrase_1 : decode cX7_ofPhrase 1 = .ok (.iload_n 1, 1) := by decide +kernel
theorem dX7_ofPhrase_2 : decode cX7_ofPhrase 2 = .ok (.invokevirtual 141, 3) := by decide +kernel
theorem dX7_ofPhrase_5 : decode cX7_ofPhrase 5 = .ok (.aload_n 0, 1) := by decide +kernel
theorem dX7_ofPhrase_6 : decode cX7_ofPhrase 6 = .ok (.getfield 17, 3) := by decide +kernel
theorem dX7_ofPhrase_9 : decode cX7_ofPhrase 9 = .ok (.iload_n 1, 1) := by decide +kernel
theorem dX7_ofPhrase_10 : decode cX7_ofPhrase 10 = .ok (.aaload, 1) := by decide +kernel
theorem dX7_ofPhrase_11 : decode cX7_ofPhrase 11 = .ok (.astore_n 3, 1) := by decide +kernel
theorem dX7_ofPhrase_12 : decode cX7_ofPhrase 12 = .ok (.iload_n 2, 1) := by decide +kernel
theorem dX7_ofPhrase_13 : decode cX7_ofPhrase 13 = .ok (.tableswitch 64 0 4 #[35, 40, 45, 50, 55], 35) := by decide +kernel
theorem dX7_ofPhrase_48 : decode cX7_ofPhrase 48 = .ok (.aload_n 3, 1) := by decide +kernel
theorem dX7_ofPhrase_49 : decode cX7_ofPhrase 49 = .ok (.getfield 208, 3) := by decide +kernel
theorem dX7_ofPhrase_52 : decode cX7_ofPhrase 52 = .ok (.ireturn, 1) := by decide +kernel
theorem dX7_ofPhrase_53 : decode cX7_ofPhrase 53 = .ok (.aload_n 3, 1) := by decide +kernel
theorem dX7_ofPhrase_54 : decode cX7_ofPhrase 54 = .ok (.getfield 326, 3) := by decide +kernel
theorem dX7_ofPhrase_57 : decode cX7_ofPhrase 57 = .ok (.ireturn, 1) := by decide +kernel
theorem dX7_ofPhrase_58 : decode cX7_ofPhrase 58 = .ok (.aload_n 3, 1) := by decide +kernel
theorem dX7_ofPhrase_59 : decode cX7_ofPhrase 59 = .ok (.getfield 329, 3) := by decide +kernel
theorem dX7_ofPhrase_62 : decode cX7_ofPhrase 62 = .ok (.ireturn, 1) := by decide +kernel
theorem dX7_ofPhrase_63 : decode cX7_ofPhrase 63 = .ok (.aload_n 3, 1) := by decide +kernel
theorem dX7_ofPhrase_64 : decode cX7_ofPhrase 64 = .ok (.getfield 157, 3) := by decide +kernel
theorem dX7_ofPhrase_67 : decode cX7_ofPhrase 67 = .ok (.ireturn, 1) := by decide +kernel
theorem dX7_ofPhrase_68 : decode cX7_ofPhrase 68 = .ok (.aload_n 0, 1) := by decide +kernel
theorem dX7_ofPhrase_69 : decode cX7_ofPhrase 69 = .ok (.getfield 30, 3) := by decide +kernel
theorem dX7_ofPhrase_72 : decode cX7_ofPhrase 72 = .ok (.iload_n 1, 1) := by decide +kernel
theorem dX7_ofPhrase_73 : decode cX7_ofPhrase 73 = .ok (.invokevirtual 332, 3) := by decide +kernel
theorem dX7_ofPhrase_76 : decode cX7_ofPhrase 76 = .ok (.ireturn, 1) := by decide +kernel
theorem dX7_ofPhrase_77 : decode cX7_ofPhrase 77 = .ok (.new 100, 3) := by decide +kernel
theorem dX7_ofPhrase_80 : decode cX7_ofPhrase 80 = .ok (.dup, 1) := by decide +kernel
theorem dX7_ofPhrase_81 : decode cX7_ofPhrase 81 = .ok (.ldc_w 324, 3) := by decide +kernel
theorem dX7_ofPhrase_84 : decode cX7_ofPhrase 84 = .ok (.invokespecial 104, 3) := by decide +kernel
theorem dX7_ofPhrase_87 : decode cX7_ofPhrase 87 = .ok (.athrow, 1) := by decide +kernel
theorem dX7_ofPlayer_0 : decode cX7_ofPlayer 0 = .ok (.aload_n 0, 1) := by decide +kernel
theorem dX7_ofPlayer_1 : decode cX7_ofPlayer 1 = .ok (.iload_n 1, 1) := by decide +kernel
theorem dX7_ofPlayer_2 : decode cX7_ofPlayer 2 = .ok (.invokevirtual 184, 3) := by decide +kernel
theorem dX7_ofPlayer_5 : decode cX7_ofPlayer 5 = .ok (.aload_n 0, 1) := by decide +kernel
theorem dX7_ofPlayer_6 : decode cX7_ofPlayer 6 = .ok (.getfield 23, 3) := by decide +kernel
theorem dX7_ofPlayer_9 : decode cX7_ofPlayer 9 = .ok (.iload_n 1, 1) := by decide +kernel
theorem dX7_ofPlayer_10 : decode cX7_ofPlayer 10 = .ok (.aaload, 1) := by decide +kernel
theorem dX7_ofPlayer_11 : decode cX7_ofPlayer 11 = .ok (.astore_n 3, 1) := by decide +kernel
theorem dX7_ofPlayer_12 : decode cX7_ofPlayer 12 = .ok (.iload_n 2, 1) := by decide +kernel
theorem dX7_ofPlayer_13 : decode cX7_ofPlayer 13 = .ok (.tableswitch 94 0 6 #[43, 48, 53, 58, 63, 76, 89], 43) := by decide +kernel
theorem dX7_ofPlayer_56 : decode cX7_ofPlayer 56 = .ok (.aload_n 3, 1) := by decide +kernel
theorem dX7_ofPlayer_57 : decode cX7_ofPlayer 57 = .ok (.getfield 190, 3) := by decide +kernel
theorem dX7_ofPlayer_60 : decode cX7_ofPlayer 60 = .ok (.ireturn, 1) := by decide +kernel
theorem dX7_ofPlayer_61 : decode cX7_ofPlayer 61 = .ok (.aload_n 3, 1) := by decide +kernel
theorem dX7_ofPlayer_62 : decode cX7_ofPlayer 62 = .ok (.getfield 335, 3) := by decide +kernel
theorem dX7_ofPlayer_65 : decode cX7_ofPlayer 65 = .ok (.ireturn, 1) := by decide +kernel
theorem dX7_ofPlayer_66 : decode cX7_ofPlayer 66 = .ok (.aload_n 3, 1) := by decide +kernel
theorem dX7_ofPlayer_67 : decode cX7_ofPlayer 67 = .ok (.getfield 338, 3) := by decide +kernel
theorem dX7_ofPlayer_70 : decode cX7_ofPlayer 70 = .ok (.ireturn, 1) := by decide +kernel
theorem dX7_ofPlayer_71 : decode cX7_ofPlayer 71 = .ok (.aload_n 3, 1) := by decide +kernel
theorem dX7_ofPlayer_72 : decode cX7_ofPlayer 72 = .ok (.invokevirtual 195, 3) := by decide +kernel
theorem dX7_ofPlayer_75 : decode cX7_ofPlayer 75 = .ok (.ireturn, 1) := by decide +kernel
theorem dX7_ofPlayer_76 : decode cX7_ofPlayer 76 = .ok (.aload_n 3, 1) := by decide +kernel
theorem dX7_ofPlayer_77 : decode cX7_ofPlayer 77 = .ok (.getfield 202, 3) := by decide +kernel
theorem dX7_ofPlayer_80 : decode cX7_ofPlayer 80 = .ok (.ifCond .eq 7, 3) := by decide +kernel
theorem dX7_ofPlayer_83 : decode cX7_ofPlayer 83 = .ok (.iconst 1, 1) := by decide +kernel
theorem dX7_ofPlayer_84 : decode cX7_ofPlayer 84 = .ok (.goto 4, 3) := by decide +kernel
theorem dX7_ofPlayer_87 : decode cX7_ofPlayer 87 = .ok (.iconst 0, 1) := by decide +kernel
theorem dX7_ofPlayer_88 : decode cX7_ofPlayer 88 = .ok (.ireturn, 1) := by decide +kernel
theorem dX7_ofPlayer_89 : decode cX7_ofPlayer 89 = .ok (.aload_n 3, 1) := by decide +kernel
theorem dX7_ofPlayer_90 : decode cX7_ofPlayer 90 = .ok (.invokevirtual 236, 3) := by decide +kernel
theorem dX7_ofPlayer_93 : decode cX7_ofPlayer 93 = .ok (.ifnull 7, 3) := by decide +kernel
theorem dX7_ofPlayer_96 : decode cX7_ofPlayer 96 = .ok (.iconst 1, 1) := by decide +kernel
theorem dX7_ofPlayer_97 : decode cX7_ofPlayer 97 = .ok (.goto 4, 3) := by decide +kernel
theorem dX7_ofPlayer_100 : decode cX7_ofPlayer 100 = .ok (.iconst 0, 1) := by decide +kernel
theorem dX7_ofPlayer_101 : decode cX7_ofPlayer 101 = .ok (.ireturn, 1) := by decide +kernel
theorem dX7_ofPlayer_102 : decode cX7_ofPlayer 102 = .ok (.aload_n 3, 1) := by decide +kernel
theorem dX7_ofPlayer_103 : decode cX7_ofPlayer 103 = .ok (.getfield 218, 3) := by decide +kernel
theorem dX7_ofPlayer_106 : decode cX7_ofPlayer 106 = .ok (.ireturn, 1) := by decide +kernel
theorem dX7_ofPlayer_107 : decode cX7_ofPlayer 107 = .ok (.new 100, 3) := by decide +kernel
theorem dX7_ofPlayer_110 : decode cX7_ofPlayer 110 = .ok (.dup, 1) := by decide +kernel
theorem dX7_ofPlayer_111 : decode cX7_ofPlayer 111 = .ok (.ldc_w 341, 3) := by decide +kernel
theorem dX7_ofPlayer_114 : decode cX7_ofPlayer 114 = .ok (.invokespecial 104, 3) := by decide +kernel
theorem dX7_ofPlayer_117 : decode cX7_ofPlayer 117 = .ok (.athrow, 1) := by decide +kernel
theorem dX7_memory_0 : decode cX7_memory 0 = .ok (.aload_n 0, 1) := by decide +kernel
theorem dX7_memory_1 : decode cX7_memory 1 = .ok (.iload_n 1, 1) := by decide +kernel
theorem dX7_memory_2 : decode cX7_memory 2 = .ok (.invokevirtual 184, 3) := by decide +kernel
theorem dX7_memory_5 : decode cX7_memory 5 = .ok (.aload_n 0, 1) := by decide +kernel
theorem dX7_memory_6 : decode cX7_memory 6 = .ok (.iload_n 2, 1) := by decide +kernel
theorem dX7_memory_7 : decode cX7_memory 7 = .ok (.invokevirtual 141, 3) := by decide +kernel
theorem dX7_memory_10 : decode cX7_memory 10 = .ok (.aload_n 0, 1) := by decide +kernel
theorem dX7_memory_11 : decode cX7_memory 11 = .ok (.getfield 37, 3) := by decide +kernel
theorem dX7_memory_14 : decode cX7_memory 14 = .ok (.getfield 225, 3) := by decide +kernel
theorem dX7_memory_17 : decode cX7_memory 17 = .ok (.iload_n 1, 1) := by decide +kernel
theorem dX7_memory_18 : decode cX7_memory 18 = .ok (.aaload, 1) := by decide +kernel
theorem dX7_memory_19 : decode cX7_memory 19 = .ok (.iload_n 2, 1) := by decide +kernel
theorem dX7_memory_20 : decode cX7_memory 20 = .ok (.iaload, 1) := by decide +kernel
theorem dX7_memory_21 : decode cX7_memory 21 = .ok (.ireturn, 1) := by decide +kernel
theorem dX7_ofPlace_0 : decode cX7_ofPlace 0 = .ok (.aload_n 0, 1) := by decide +kernel
theorem dX7_ofPlace_1 : decode cX7_ofPlace 1 = .ok (.iload_n 1, 1) := by decide +kernel
theorem dX7_ofPlace_2 : decode cX7_ofPlace 2 = .ok (.invokevirtual 168, 3) := by decide +kernel
theorem dX7_ofPlace_5 : decode cX7_ofPlace 5 = .ok (.iload_n 2, 1) := by decide +kernel
theorem dX7_ofPlace_6 : decode cX7_ofPlace 6 = .ok (.iconst 0, 1) := by decide +kernel
theorem dX7_ofPlace_7 : decode cX7_ofPlace 7 = .ok (.iconst 1, 1) := by decide +kernel
theorem dX7_ofPlace_8 : decode cX7_ofPlace 8 = .ok (.invokestatic 96, 3) := by decide +kernel
theorem dX7_ofPlace_11 : decode cX7_ofPlace 11 = .ok (.ifCond .ne 14, 3) := by decide +kernel
theorem dX7_ofPlace_14 : decode cX7_ofPlace 14 = .ok (.new 100, 3) := by decide +kernel
theorem dX7_ofPlace_17 : decode cX7_ofPlace 17 = .ok (.dup, 1) := by decide +kernel
theorem dX7_ofPlace_18 : decode cX7_ofPlace 18 = .ok (.ldc_w 343, 3) := by decide +kernel
theorem dX7_ofPlace_21 : decode cX7_ofPlace 21 = .ok (.invokespecial 104, 3) := by decide +kernel
theorem dX7_ofPlace_24 : decode cX7_ofPlace 24 = .ok (.athrow, 1) := by decide +kernel
theorem dX7_ofPlace_25 : decode cX7_ofPlace 25 = .ok (.iload_n 2, 1) := by decide +kernel
theorem dX7_ofPlace_26 : decode cX7_ofPlace 26 = .ok (.ifCond .ne 13, 3) := by decide +kernel
theorem dX7_ofPlace_29 : decode cX7_ofPlace 29 = .ok (.aload_n 0, 1) := by decide +kernel
theorem dX7_ofPlace_30 : decode cX7_ofPlace 30 = .ok (.getfield 30, 3) := by decide +kernel
theorem dX7_ofPlace_33 : decode cX7_ofPlace 33 = .ok (.getfield 171, 3) := by decide +kernel
theorem dX7_ofPlace_36 : decode cX7_ofPlace 36 = .ok (.iload_n 1, 1) := by decide +kernel
theorem dX7_ofPlace_37 : decode cX7_ofPlace 37 = .ok (.iaload, 1) := by decide +kernel
theorem dX7_ofPlace_38 : decode cX7_ofPlace 38 = .ok (.ireturn, 1) := by decide +kernel
theorem dX7_ofPlace_39 : decode cX7_ofPlace 39 = .ok (.aload_n 0, 1) := by decide +kernel
theorem dX7_ofPlace_40 : decode cX7_ofPlace 40 = .ok (.aload_n 0, 1) := by decide +kernel
theorem dX7_ofPlace_41 : decode cX7_ofPlace 41 = .ok (.getfield 37, 3) := by decide +kernel
theorem dX7_ofPlace_44 : decode cX7_ofPlace 44 = .ok (.invokevirtual 345, 3) := by decide +kernel
theorem dX7_ofPlace_47 : decode cX7_ofPlace 47 = .ok (.aload_n 0, 1) := by decide +kernel
theorem dX7_ofPlace_48 : decode cX7_ofPlace 48 = .ok (.aload_n 0, 1) := by decide +kernel
theorem dX7_ofPlace_49 : decode cX7_ofPlace 49 = .ok (.getfield 30, 3) := by decide +kernel
theorem dX7_ofPlace_52 : decode cX7_ofPlace 52 = .ok (.iload_n 1, 1) := by decide +kernel
theorem dX7_ofPlace_53 : decode cX7_ofPlace 53 = .ok (.invokevirtual 349, 3) := by decide +kernel
theorem dX7_ofPlace_56 : decode cX7_ofPlace 56 = .ok (.ireturn, 1) := by decide +kernel
theorem dX7_mark_0 : decode cX7_mark 0 = .ok (.iload_n 1, 1) := by decide +kernel
theorem dX7_mark_1 : decode cX7_mark 1 = .ok (.iconst 0, 1) := by decide +kernel
theorem dX7_mark_2 : decode cX7_mark 2 = .ok (.iconst 3, 1) := by decide +kernel
theorem dX7_mark_3 : decode cX7_mark 3 = .ok (.invokestatic 96, 3) := by decide +kernel
theorem dX7_mark_6 : decode cX7_mark 6 = .ok (.ifCond .ne 14, 3) := by decide +kernel
theorem dX7_mark_9 : decode cX7_mark 9 = .ok (.new 276, 3) := by decide +kernel
theorem dX7_mark_12 : decode cX7_mark 12 = .ok (.dup, 1) := by decide +kernel
theorem dX7_mark_13 : decode cX7_mark 13 = .ok (.ldc_w 353, 3) := by decide +kernel
theorem dX7_mark_16 : decode cX7_mark 16 = .ok (.invokespecial 280, 3) := by decide +kernel
theorem dX7_mark_19 : decode cX7_mark 19 = .ok (.athrow, 1) := by decide +kernel
theorem dX7_mark_20 : decode cX7_mark 20 = .ok (.aload_n 0, 1) := by decide +kernel
theorem dX7_mark_21 : decode cX7_mark 21 = .ok (.aload_n 0, 1) := by decide +kernel
theorem dX7_mark_22 : decode cX7_mark 22 = .ok (.getfield 37, 3) := by decide +kernel
theorem dX7_mark_25 : decode cX7_mark 25 = .ok (.invokevirtual 345, 3) := by decide +kernel
theorem dX7_mark_28 : decode cX7_mark 28 = .ok (.iload_n 1, 1) := by decide +kernel
theorem dX7_mark_29 : decode cX7_mark 29 = .ok (.tableswitch 50 0 2 #[27, 36, 41], 27) := by decide +kernel
theorem dX7_mark_56 : decode cX7_mark 56 = .ok (.aload_n 0, 1) := by decide +kernel
theorem dX7_mark_57 : decode cX7_mark 57 = .ok (.aload_n 0, 1) := by decide +kernel
theorem dX7_mark_58 : decode cX7_mark 58 = .ok (.getfield 30, 3) := by decide +kernel
theorem dX7_mark_61 : decode cX7_mark 61 = .ok (.invokevirtual 355, 3) := by decide +kernel
theorem dX7_mark_64 : decode cX7_mark 64 = .ok (.ireturn, 1) := by decide +kernel
theorem dX7_mark_65 : decode cX7_mark 65 = .ok (.aload_n 0, 1) := by decide +kernel
theorem dX7_mark_66 : decode cX7_mark 66 = .ok (.invokevirtual 359, 3) := by decide +kernel
theorem dX7_mark_69 : decode cX7_mark 69 = .ok (.ireturn, 1) := by decide +kernel
theorem dX7_mark_70 : decode cX7_mark 70 = .ok (.aload_n 0, 1) := by decide +kernel
theorem dX7_mark_71 : decode cX7_mark 71 = .ok (.aload_n 0, 1) := by decide +kernel
theorem dX7_mark_72 : decode cX7_mark 72 = .ok (.getfield 30, 3) := by decide +kernel
theorem dX7_mark_75 : decode cX7_mark 75 = .ok (.invokevirtual 362, 3) := by decide +kernel
theorem dX7_mark_78 : decode cX7_mark 78 = .ok (.ireturn, 1) := by decide +kernel
theorem dX7_mark_79 : decode cX7_mark 79 = .ok (.aload_n 0, 1) := by decide +kernel
theorem dX7_mark_80 : decode cX7_mark 80 = .ok (.aload_n 0, 1) := by decide +kernel
theorem dX7_mark_81 : decode cX7_mark 81 = .ok (.getfield 30, 3) := by decide +kernel
theorem dX7_mark_84 : decode cX7_mark 84 = .ok (.invokevirtual 365, 3) := by decide +kernel
theorem dX7_mark_87 : decode cX7_mark 87 = .ok (.ireturn, 1) := by decide +kernel
theorem dX7_ofRound_0 : decode cX7_ofRound 0 = .ok (.iload_n 1, 1) := by decide +kernel
theorem dX7_ofRound_1 : decode cX7_ofRound 1 = .ok (.iconst 0, 1) := by decide +kernel
theorem dX7_ofRound_2 : decode cX7_ofRound 2 = .ok (.iconst 2, 1) := by decide +kernel
theorem dX7_ofRound_3 : decode cX7_ofRound 3 = .ok (.invokestatic 96, 3) := by decide +kernel
theorem dX7_ofRound_6 : decode cX7_ofRound 6 = .ok (.ifCond .ne 14, 3) := by decide +kernel
theorem dX7_ofRound_9 : decode cX7_ofRound 9 = .ok (.new 276, 3) := by decide +kernel
theorem dX7_ofRound_12 : decode cX7_ofRound 12 = .ok (.dup, 1) := by decide +kernel
theorem dX7_ofRound_13 : decode cX7_ofRound 13 = .ok (.ldc_w 368, 3) := by decide +kernel
theorem dX7_ofRound_16 : decode cX7_ofRound 16 = .ok (.invokespecial 280, 3) := by decide +kernel
theorem dX7_ofRound_19 : decode cX7_ofRound 19 = .ok (.athrow, 1) := by decide +kernel
theorem dX7_ofRound_20 : decode cX7_ofRound 20 = .ok (.iload_n 2, 1) := by decide +kernel
theorem dX7_ofRound_21 : decode cX7_ofRound 21 = .ok (.iconst 0, 1) := by decide +kernel
theorem dX7_ofRound_22 : decode cX7_ofRound 22 = .ok (.iconst 1, 1) := by decide +kernel
theorem dX7_ofRound_23 : decode cX7_ofRound 23 = .ok (.invokestatic 96, 3) := by decide +kernel
theorem dX7_ofRound_26 : decode cX7_ofRound 26 = .ok (.ifCond .ne 14, 3) := by decide +kernel
theorem dX7_ofRound_29 : decode cX7_ofRound 29 = .ok (.new 100, 3) := by decide +kernel
theorem dX7_ofRound_32 : decode cX7_ofRound 32 = .ok (.dup, 1) := by decide +kernel
theorem dX7_ofRound_33 : decode cX7_ofRound 33 = .ok (.ldc_w 343, 3) := by decide +kernel
theorem dX7_ofRound_36 : decode cX7_ofRound 36 = .ok (.invokespecial 104, 3) := by decide +kernel
theorem dX7_ofRound_39 : decode cX7_ofRound 39 = .ok (.athrow, 1) := by decide +kernel
theorem dX7_ofRound_40 : decode cX7_ofRound 40 = .ok (.iload_n 1, 1) := by decide +kernel
theorem dX7_ofRound_41 : decode cX7_ofRound 41 = .ok (.aload_n 0, 1) := by decide +kernel
theorem dX7_ofRound_42 : decode cX7_ofRound 42 = .ok (.getfield 51, 3) := by decide +kernel
theorem dX7_ofRound_45 : decode cX7_ofRound 45 = .ok (.getfield 299, 3) := by decide +kernel
theorem dX7_ofRound_48 : decode cX7_ofRound 48 = .ok (.if_icmp .lt 5, 3) := by decide +kernel
theorem dX7_ofRound_51 : decode cX7_ofRound 51 = .ok (.iconst (-1), 1) := by decide +kernel
theorem dX7_ofRound_52 : decode cX7_ofRound 52 = .ok (.ireturn, 1) := by decide +kernel
theorem dX7_ofRound_53 : decode cX7_ofRound 53 = .ok (.iload_n 2, 1) := by decide +kernel
theorem dX7_ofRound_54 : decode cX7_ofRound 54 = .ok (.ifCond .ne 15, 3) := by decide +kernel
theorem dX7_ofRound_57 : decode cX7_ofRound 57 = .ok (.aload_n 0, 1) := by decide +kernel
theorem dX7_ofRound_58 : decode cX7_ofRound 58 = .ok (.getfield 51, 3) := by decide +kernel
theorem dX7_ofRound_61 : decode cX7_ofRound 61 = .ok (.getfield 370, 3) := by decide +kernel
theorem dX7_ofRound_64 : decode cX7_ofRound 64 = .ok (.iload_n 1, 1) := by decide +kernel
theorem dX7_ofRound_65 : decode cX7_ofRound 65 = .ok (.iaload, 1) := by decide +kernel
theorem dX7_ofRound_66 : decode cX7_ofRound 66 = .ok (.goto 12, 3) := by decide +kernel
theorem dX7_ofRound_69 : decode cX7_ofRound 69 = .ok (.aload_n 0, 1) := by decide +kernel
theorem dX7_ofRound_70 : decode cX7_ofRound 70 = .ok (.getfield 51, 3) := by decide +kernel
theorem dX7_ofRound_73 : decode cX7_ofRound 73 = .ok (.getfield 373, 3) := by decide +kernel
theorem dX7_ofRound_76 : decode cX7_ofRound 76 = .ok (.iload_n 1, 1) := by decide +kernel
theorem dX7_ofRound_77 : decode cX7_ofRound 77 = .ok (.iaload, 1) := by decide +kernel
theorem dX7_ofRound_78 : decode cX7_ofRound 78 = .ok (.ireturn, 1) := by decide +kernel
theorem dX7_many_0 : decode cX7_many 0 = .ok (.iload_n 1, 1) := by decide +kernel
theorem dX7_many_1 : decode cX7_many 1 = .ok (.tableswitch 174 0 13 #[71, 79, 84, 89, 97, 102, 107, 115, 120, 128, 144, 149, 161, 169], 71) := by decide +kernel
theorem dX7_many_72 : decode cX7_many 72 = .ok (.aload_n 0, 1) := by decide +kernel
theorem dX7_many_73 : decode cX7_many 73 = .ok (.getfield 44, 3) := by decide +kernel
theorem dX7_many_76 : decode cX7_many 76 = .ok (.getfield 261, 3) := by decide +kernel
theorem dX7_many_79 : decode cX7_many 79 = .ok (.ireturn, 1) := by decide +kernel
theorem dX7_many_80 : decode cX7_many 80 = .ok (.aload_n 0, 1) := by decide +kernel
theorem dX7_many_81 : decode cX7_many 81 = .ok (.getfield 80, 3) := by decide +kernel
theorem dX7_many_84 : decode cX7_many 84 = .ok (.ireturn, 1) := by decide +kernel
theorem dX7_many_85 : decode cX7_many 85 = .ok (.aload_n 0, 1) := by decide +kernel
theorem dX7_many_86 : decode cX7_many 86 = .ok (.getfield 133, 3) := by decide +kernel
theorem dX7_many_89 : decode cX7_many 89 = .ok (.ireturn, 1) := by decide +kernel
theorem dX7_many_90 : decode cX7_many 90 = .ok (.aload_n 0, 1) := by decide +kernel
theorem dX7_many_91 : decode cX7_many 91 = .ok (.getfield 30, 3) := by decide +kernel
theorem dX7_many_94 : decode cX7_many 94 = .ok (.getfield 160, 3) := by decide +kernel
theorem dX7_many_97 : decode cX7_many 97 = .ok (.ireturn, 1) := by decide +kernel
theorem dX7_many_98 : decode cX7_many 98 = .ok (.aload_n 0, 1) := by decide +kernel
theorem dX7_many_99 : decode cX7_many 99 = .ok (.getfield 147, 3) := by decide +kernel
theorem dX7_many_102 : decode cX7_many 102 = .ok (.ireturn, 1) := by decide +kernel
theorem dX7_many_103 : decode cX7_many 103 = .ok (.aload_n 0, 1) := by decide +kernel
theorem dX7_many_104 : decode cX7_many 104 = .ok (.invokevirtual 244, 3) := by decide +kernel
theorem dX7_many_107 : decode cX7_many 107 = .ok (.ireturn, 1) := by decide +kernel
theorem dX7_many_108 : decode cX7_many 108 = .ok (.aload_n 0, 1) := by decide +kernel
theorem dX7_many_109 : decode cX7_many 109 = .ok (.getfield 51, 3) := by decide +kernel
theorem dX7_many_112 : decode cX7_many 112 = .ok (.getfield 268, 3) := by decide +kernel
theorem dX7_many_115 : decode cX7_many 115 = .ok (.ireturn, 1) := by decide +kernel
theorem dX7_many_116 : decode cX7_many 116 = .ok (.aload_n 0, 1) := by decide +kernel
theorem dX7_many_117 : decode cX7_many 117 = .ok (.getfield 55, 3) := by decide +kernel
theorem dX7_many_120 : decode cX7_many 120 = .ok (.ireturn, 1) := by decide +kernel
theorem dX7_many_121 : decode cX7_many 121 = .ok (.aload_n 0, 1) := by decide +kernel
theorem dX7_many_122 : decode cX7_many 122 = .ok (.getfield 51, 3) := by decide +kernel
theorem dX7_many_125 : decode cX7_many 125 = .ok (.getfield 299, 3) := by decide +kernel
theorem dX7_many_128 : decode cX7_many 128 = .ok (.ireturn, 1) := by decide +kernel
theorem dX7_many_129 : decode cX7_many 129 = .ok (.aload_n 0, 1) := by decide +kernel
theorem dX7_many_130 : decode cX7_many 130 = .ok (.getfield 51, 3) := by decide +kernel
theorem dX7_many_133 : decode cX7_many 133 = .ok (.invokevirtual 286, 3) := by decide +kernel
theorem dX7_many_136 : decode cX7_many 136 = .ok (.ifCond .eq 7, 3) := by decide +kernel
theorem dX7_many_139 : decode cX7_many 139 = .ok (.iconst 1, 1) := by decide +kernel
theorem dX7_many_140 : decode cX7_many 140 = .ok (.goto 4, 3) := by decide +kernel
theorem dX7_many_143 : decode cX7_many 143 = .ok (.iconst 0, 1) := by decide +kernel
theorem dX7_many_144 : decode cX7_many 144 = .ok (.ireturn, 1) := by decide +kernel
theorem dX7_many_145 : decode cX7_many 145 = .ok (.aload_n 0, 1) := by decide +kernel
theorem dX7_many_146 : decode cX7_many 146 = .ok (.invokevirtual 302, 3) := by decide +kernel
theorem dX7_many_149 : decode cX7_many 149 = .ok (.ireturn, 1) := by decide +kernel
theorem dX7_many_150 : decode cX7_many 150 = .ok (.aload_n 0, 1) := by decide +kernel
theorem dX7_many_151 : decode cX7_many 151 = .ok (.getfield 51, 3) := by decide +kernel
theorem dX7_many_154 : decode cX7_many 154 = .ok (.aload_n 0, 1) := by decide +kernel
theorem dX7_many_155 : decode cX7_many 155 = .ok (.invokevirtual 302, 3) := by decide +kernel
theorem dX7_many_158 : decode cX7_many 158 = .ok (.invokevirtual 305, 3) := by decide +kernel
theorem dX7_many_161 : decode cX7_many 161 = .ok (.ireturn, 1) := by decide +kernel
theorem dX7_many_162 : decode cX7_many 162 = .ok (.aload_n 0, 1) := by decide +kernel
theorem dX7_many_163 : decode cX7_many 163 = .ok (.getfield 44, 3) := by decide +kernel
theorem dX7_many_166 : decode cX7_many 166 = .ok (.getfield 231, 3) := by decide +kernel
theorem dX7_many_169 : decode cX7_many 169 = .ok (.ireturn, 1) := by decide +kernel
theorem dX7_many_170 : decode cX7_many 170 = .ok (.aload_n 0, 1) := by decide +kernel
theorem dX7_many_171 : decode cX7_many 171 = .ok (.invokevirtual 376, 3) := by decide +kernel
theorem dX7_many_174 : decode cX7_many 174 = .ok (.ireturn, 1) := by decide +kernel
theorem dX7_many_175 : decode cX7_many 175 = .ok (.new 100, 3) := by decide +kernel
theorem dX7_many_178 : decode cX7_many 178 = .ok (.dup, 1) := by decide +kernel
theorem dX7_many_179 : decode cX7_many 179 = .ok (.ldc_w 379, 3) := by decide +kernel
theorem dX7_many_182 : decode cX7_many 182 = .ok (.invokespecial 104, 3) := by decide +kernel
theorem dX7_many_185 : decode cX7_many 185 = .ok (.athrow, 1) := by decide +kernel
theorem dX7_meanMemory_0 : decode cX7_meanMemory 0 = .ok (.iconst 0, 1) := by decide +kernel
theorem dX7_meanMemory_1 : decode cX7_meanMemory 1 = .ok (.istore_n 1, 1) := by decide +kernel
theorem dX7_meanMemory_2 : decode cX7_meanMemory 2 = .ok (.iconst 0, 1) := by decide +kernel
theorem dX7_meanMemory_3 : decode cX7_meanMemory 3 = .ok (.istore_n 2, 1) := by decide +kernel
theorem dX7_meanMemory_4 : decode cX7_meanMemory 4 = .ok (.iconst 0, 1) := by decide +kernel
theorem dX7_meanMemory_5 : decode cX7_meanMemory 5 = .ok (.istore_n 3, 1) := by decide +kernel
theorem dX7_meanMemory_6 : decode cX7_meanMemory 6 = .ok (.iload_n 3, 1) := by decide +kernel
theorem dX7_meanMemory_7 : decode cX7_meanMemory 7 = .ok (.aload_n 0, 1) := by decide +kernel
theorem dX7_meanMemory_8 : decode cX7_meanMemory 8 = .ok (.getfield 147, 3) := by decide +kernel
theorem dX7_meanMemory_11 : decode cX7_meanMemory 11 = .ok (.if_icmp .ge 67, 3) := by decide +kernel
theorem dX7_meanMemory_14 : decode cX7_meanMemory 14 = .ok (.iconst 0, 1) := by decide +kernel
theorem dX7_meanMemory_15 : decode cX7_meanMemory 15 = .ok (.istore 4, 2) := by decide +kernel
theorem dX7_meanMemory_17 : decode cX7_meanMemory 17 = .ok (.iload 4, 2) := by decide +kernel
theorem dX7_meanMemory_19 : decode cX7_meanMemory 19 = .ok (.aload_n 0, 1) := by decide +kernel
theorem dX7_meanMemory_20 : decode cX7_meanMemory 20 = .ok (.getfield 133, 3) := by decide +kernel
theorem dX7_meanMemory_23 : decode cX7_meanMemory 23 = .ok (.if_icmp .ge 49, 3) := by decide +kernel
theorem dX7_meanMemory_26 : decode cX7_meanMemory 26 = .ok (.aload_n 0, 1) := by decide +kernel
theorem dX7_meanMemory_27 : decode cX7_meanMemory 27 = .ok (.getfield 23, 3) := by decide +kernel
theorem dX7_meanMemory_30 : decode cX7_meanMemory 30 = .ok (.iload_n 3, 1) := by decide +kernel
theorem dX7_meanMemory_31 : decode cX7_meanMemory 31 = .ok (.aaload, 1) := by decide +kernel
theorem dX7_meanMemory_32 : decode cX7_meanMemory 32 = .ok (.getfield 190, 3) := by decide +kernel
theorem dX7_meanMemory_35 : decode cX7_meanMemory 35 = .ok (.aload_n 0, 1) := by decide +kernel
theorem dX7_meanMemory_36 : decode cX7_meanMemory 36 = .ok (.getfield 17, 3) := by decide +kernel
theorem dX7_meanMemory_39 : decode cX7_meanMemory 39 = .ok (.iload 4, 2) := by decide +kernel
theorem dX7_meanMemory_41 : decode cX7_meanMemory 41 = .ok (.aaload, 1) := by decide +kernel
theorem dX7_meanMemory_42 : decode cX7_meanMemory 42 = .ok (.getfield 208, 3) := by decide +kernel
theorem dX7_meanMemory_45 : decode cX7_meanMemory 45 = .ok (.if_icmp .ne 21, 3) := by decide +kernel
theorem dX7_meanMemory_48 : decode cX7_meanMemory 48 = .ok (.iload_n 1, 1) := by decide +kernel
theorem dX7_meanMemory_49 : decode cX7_meanMemory 49 = .ok (.aload_n 0, 1) := by decide +kernel
theorem dX7_meanMemory_50 : decode cX7_meanMemory 50 = .ok (.getfield 37, 3) := by decide +kernel
theorem dX7_meanMemory_53 : decode cX7_meanMemory 53 = .ok (.getfield 225, 3) := by decide +kernel
theorem dX7_meanMemory_56 : decode cX7_meanMemory 56 = .ok (.iload_n 3, 1) := by decide +kernel
theorem dX7_meanMemory_57 : decode cX7_meanMemory 57 = .ok (.aaload, 1) := by decide +kernel
theorem dX7_meanMemory_58 : decode cX7_meanMemory 58 = .ok (.iload 4, 2) := by decide +kernel
theorem dX7_meanMemory_60 : decode cX7_meanMemory 60 = .ok (.iaload, 1) := by decide +kernel
theorem dX7_meanMemory_61 : decode cX7_meanMemory 61 = .ok (.iadd, 1) := by decide +kernel
theorem dX7_meanMemory_62 : decode cX7_meanMemory 62 = .ok (.istore_n 1, 1) := by decide +kernel
theorem dX7_meanMemory_63 : decode cX7_meanMemory 63 = .ok (.iinc 2 1, 3) := by decide +kernel
theorem dX7_meanMemory_66 : decode cX7_meanMemory 66 = .ok (.iinc 4 1, 3) := by decide +kernel
theorem dX7_meanMemory_69 : decode cX7_meanMemory 69 = .ok (.goto (-52), 3) := by decide +kernel
theorem dX7_meanMemory_72 : decode cX7_meanMemory 72 = .ok (.iinc 3 1, 3) := by decide +kernel
theorem dX7_meanMemory_75 : decode cX7_meanMemory 75 = .ok (.goto (-69), 3) := by decide +kernel
theorem dX7_meanMemory_78 : decode cX7_meanMemory 78 = .ok (.iload_n 2, 1) := by decide +kernel
theorem dX7_meanMemory_79 : decode cX7_meanMemory 79 = .ok (.ifCond .ne 7, 3) := by decide +kernel
theorem dX7_meanMemory_82 : decode cX7_meanMemory 82 = .ok (.dconst 0, 1) := by decide +kernel
theorem dX7_meanMemory_83 : decode cX7_meanMemory 83 = .ok (.goto 8, 3) := by decide +kernel
theorem dX7_meanMemory_86 : decode cX7_meanMemory 86 = .ok (.iload_n 1, 1) := by decide +kernel
theorem dX7_meanMemory_87 : decode cX7_meanMemory 87 = .ok (.i2d, 1) := by decide +kernel
theorem dX7_meanMemory_88 : decode cX7_meanMemory 88 = .ok (.iload_n 2, 1) := by decide +kernel
theorem dX7_meanMemory_89 : decode cX7_meanMemory 89 = .ok (.i2d, 1) := by decide +kernel
theorem dX7_meanMemory_90 : decode cX7_meanMemory 90 = .ok (.ddiv, 1) := by decide +kernel
theorem dX7_meanMemory_91 : decode cX7_meanMemory 91 = .ok (.dreturn, 1) := by decide +kernel
theorem dX7_wouldTotal_0 : decode cX7_wouldTotal 0 = .ok (.iload_n 1, 1) := by decide +kernel
theorem dX7_wouldTotal_1 : decode cX7_wouldTotal 1 = .ok (.iconst 0, 1) := by decide +kernel
theorem dX7_wouldTotal_2 : decode cX7_wouldTotal 2 = .ok (.bipush 60, 2) := by decide +kernel
theorem dX7_wouldTotal_4 : decode cX7_wouldTotal 4 = .ok (.invokestatic 96, 3) := by decide +kernel
theorem dX7_wouldTotal_7 : decode cX7_wouldTotal 7 = .ok (.ifCond .ne 14, 3) := by decide +kernel
theorem dX7_wouldTotal_10 : decode cX7_wouldTotal 10 = .ok (.new 100, 3) := by decide +kernel
theorem dX7_wouldTotal_13 : decode cX7_wouldTotal 13 = .ok (.dup, 1) := by decide +kernel
theorem dX7_wouldTotal_14 : decode cX7_wouldTotal 14 = .ok (.ldc_w 381, 3) := by decide +kernel
theorem dX7_wouldTotal_17 : decode cX7_wouldTotal 17 = .ok (.invokespecial 104, 3) := by decide +kernel
theorem dX7_wouldTotal_20 : decode cX7_wouldTotal 20 = .ok (.athrow, 1) := by decide +kernel
theorem dX7_wouldTotal_21 : decode cX7_wouldTotal 21 = .ok (.aload_n 0, 1) := by decide +kernel
theorem dX7_wouldTotal_22 : decode cX7_wouldTotal 22 = .ok (.getfield 69, 3) := by decide +kernel
theorem dX7_wouldTotal_25 : decode cX7_wouldTotal 25 = .ok (.aload_n 0, 1) := by decide +kernel
theorem dX7_wouldTotal_26 : decode cX7_wouldTotal 26 = .ok (.getfield 37, 3) := by decide +kernel
theorem dX7_wouldTotal_29 : decode cX7_wouldTotal 29 = .ok (.invokevirtual 383, 3) := by decide +kernel
theorem dX7_wouldTotal_32 : decode cX7_wouldTotal 32 = .ok (.iconst 0, 1) := by decide +kernel
theorem dX7_wouldTotal_33 : decode cX7_wouldTotal 33 = .ok (.istore_n 2, 1) := by decide +kernel
theorem dX7_wouldTotal_34 : decode cX7_wouldTotal 34 = .ok (.iload_n 2, 1) := by decide +kernel
theorem dX7_wouldTotal_35 : decode cX7_wouldTotal 35 = .ok (.iload_n 1, 1) := by decide +kernel
theorem dX7_wouldTotal_36 : decode cX7_wouldTotal 36 = .ok (.if_icmp .ge 24, 3) := by decide +kernel
theorem dX7_wouldTotal_39 : decode cX7_wouldTotal 39 = .ok (.aload_n 0, 1) := by decide +kernel
theorem dX7_wouldTotal_40 : decode cX7_wouldTotal 40 = .ok (.getfield 69, 3) := by decide +kernel
theorem dX7_wouldTotal_43 : decode cX7_wouldTotal 43 = .ok (.aload_n 0, 1) := by decide +kernel
theorem dX7_wouldTotal_44 : decode cX7_wouldTotal 44 = .ok (.getfield 17, 3) := by decide +kernel
theorem dX7_wouldTotal_47 : decode cX7_wouldTotal 47 = .ok (.aload_n 0, 1) := by decide +kernel
theorem dX7_wouldTotal_48 : decode cX7_wouldTotal 48 = .ok (.getfield 133, 3) := by decide +kernel
theorem dX7_wouldTotal_51 : decode cX7_wouldTotal 51 = .ok (.invokevirtual 251, 3) := by decide +kernel
theorem dX7_wouldTotal_54 : decode cX7_wouldTotal 54 = .ok (.iinc 2 1, 3) := by decide +kernel
theorem dX7_wouldTotal_57 : decode cX7_wouldTotal 57 = .ok (.goto (-23), 3) := by decide +kernel
theorem dX7_wouldTotal_60 : decode cX7_wouldTotal 60 = .ok (.aload_n 0, 1) := by decide +kernel
theorem dX7_wouldTotal_61 : decode cX7_wouldTotal 61 = .ok (.aload_n 0, 1) := by decide +kernel
theorem dX7_wouldTotal_62 : decode cX7_wouldTotal 62 = .ok (.getfield 69, 3) := by decide +kernel
theorem dX7_wouldTotal_65 : decode cX7_wouldTotal 65 = .ok (.invokevirtual 345, 3) := by decide +kernel
theorem dX7_wouldTotal_68 : decode cX7_wouldTotal 68 = .ok (.aload_n 0, 1) := by decide +kernel
theorem dX7_wouldTotal_69 : decode cX7_wouldTotal 69 = .ok (.invokevirtual 359, 3) := by decide +kernel
theorem dX7_wouldTotal_72 : decode cX7_wouldTotal 72 = .ok (.aload_n 0, 1) := by decide +kernel
theorem dX7_wouldTotal_73 : decode cX7_wouldTotal 73 = .ok (.aload_n 0, 1) := by decide +kernel
theorem dX7_wouldTotal_74 : decode cX7_wouldTotal 74 = .ok (.getfield 30, 3) := by decide +kernel
theorem dX7_wouldTotal_77 : decode cX7_wouldTotal 77 = .ok (.invokevirtual 386, 3) := by decide +kernel
theorem dX7_wouldTotal_80 : decode cX7_wouldTotal 80 = .ok (.iadd, 1) := by decide +kernel
theorem dX7_wouldTotal_81 : decode cX7_wouldTotal 81 = .ok (.ireturn, 1) := by decide +kernel
theorem dX7_bestOrder_0 : decode cX7_bestOrder 0 = .ok (.aload_n 0, 1) := by decide +kernel
theorem dX7_bestOrder_1 : decode cX7_bestOrder 1 = .ok (.getfield 30, 3) := by decide +kernel
theorem dX7_bestOrder_4 : decode cX7_bestOrder 4 = .ok (.getfield 160, 3) := by decide +kernel
theorem dX7_bestOrder_7 : decode cX7_bestOrder 7 = .ok (.istore_n 1, 1) := by decide +kernel
theorem dX7_bestOrder_8 : decode cX7_bestOrder 8 = .ok (.iload_n 1, 1) := by decide +kernel
theorem dX7_bestOrder_9 : decode cX7_bestOrder 9 = .ok (.iconst 5, 1) := by decide +kernel
theorem dX7_bestOrder_10 : decode cX7_bestOrder 10 = .ok (.if_icmp .le 14, 3) := by decide +kernel
theorem dX7_bestOrder_13 : decode cX7_bestOrder 13 = .ok (.new 83, 3) := by decide +kernel
theorem dX7_bestOrder_16 : decode cX7_bestOrder 16 = .ok (.dup, 1) := by decide +kernel
theorem dX7_bestOrder_17 : decode cX7_bestOrder 17 = .ok (.ldc_w 389, 3) := by decide +kernel
theorem dX7_bestOrder_20 : decode cX7_bestOrder 20 = .ok (.invokespecial 87, 3) := by decide +kernel
theorem dX7_bestOrder_23 : decode cX7_bestOrder 23 = .ok (.athrow, 1) := by decide +kernel
theorem dX7_bestOrder_24 : decode cX7_bestOrder 24 = .ok (.iconst 1, 1) := by decide +kernel
theorem dX7_bestOrder_25 : decode cX7_bestOrder 25 = .ok (.istore_n 2, 1) := by decide +kernel
theorem dX7_bestOrder_26 : decode cX7_bestOrder 26 = .ok (.iconst 2, 1) := by decide +kernel
theorem dX7_bestOrder_27 : decode cX7_bestOrder 27 = .ok (.istore_n 3, 1) := by decide +kernel
theorem dX7_bestOrder_28 : decode cX7_bestOrder 28 = .ok (.iload_n 3, 1) := by decide +kernel
theorem dX7_bestOrder_29 : decode cX7_bestOrder 29 = .ok (.iload_n 1, 1) := by decide +kernel
theorem dX7_bestOrder_30 : decode cX7_bestOrder 30 = .ok (.if_icmp .gt 13, 3) := by decide +kernel
theorem dX7_bestOrder_33 : decode cX7_bestOrder 33 = .ok (.iload_n 2, 1) := by decide +kernel
theorem dX7_bestOrder_34 : decode cX7_bestOrder 34 = .ok (.iload_n 3, 1) := by decide +kernel
theorem dX7_bestOrder_35 : decode cX7_bestOrder 35 = .ok (.imul, 1) := by decide +kernel
theorem dX7_bestOrder_36 : decode cX7_bestOrder 36 = .ok (.istore_n 2, 1) := by decide +kernel
theorem dX7_bestOrder_37 : decode cX7_bestOrder 37 = .ok (.iinc 3 1, 3) := by decide +kernel
theorem dX7_bestOrder_40 : decode cX7_bestOrder 40 = .ok (.goto (-12), 3) := by decide +kernel
theorem dX7_bestOrder_43 : decode cX7_bestOrder 43 = .ok (.aload_n 0, 1) := by decide +kernel
theorem dX7_bestOrder_44 : decode cX7_bestOrder 44 = .ok (.aload_n 0, 1) := by decide +kernel
theorem dX7_bestOrder_45 : decode cX7_bestOrder 45 = .ok (.getfield 37, 3) := by decide +kernel
theorem dX7_bestOrder_48 : decode cX7_bestOrder 48 = .ok (.invokevirtual 345, 3) := by decide +kernel
theorem dX7_bestOrder_51 : decode cX7_bestOrder 51 = .ok (.iconst 0, 1) := by decide +kernel
theorem dX7_bestOrder_52 : decode cX7_bestOrder 52 = .ok (.istore_n 3, 1) := by decide +kernel
theorem dX7_bestOrder_53 : decode cX7_bestOrder 53 = .ok (.iconst 0, 1) := by decide +kernel
theorem dX7_bestOrder_54 : decode cX7_bestOrder 54 = .ok (.istore 4, 2) := by decide +kernel
theorem dX7_bestOrder_56 : decode cX7_bestOrder 56 = .ok (.iload 4, 2) := by decide +kernel
theorem dX7_bestOrder_58 : decode cX7_bestOrder 58 = .ok (.iload_n 2, 1) := by decide +kernel
theorem dX7_bestOrder_59 : decode cX7_bestOrder 59 = .ok (.if_icmp .ge 42, 3) := by decide +kernel
theorem dX7_bestOrder_62 : decode cX7_bestOrder 62 = .ok (.aload_n 0, 1) := by decide +kernel
theorem dX7_bestOrder_63 : decode cX7_bestOrder 63 = .ok (.getfield 66, 3) := by decide +kernel
theorem dX7_bestOrder_66 : decode cX7_bestOrder 66 = .ok (.aload_n 0, 1) := by decide +kernel
theorem dX7_bestOrder_67 : decode cX7_bestOrder 67 = .ok (.getfield 30, 3) := by decide +kernel
theorem dX7_bestOrder_70 : decode cX7_bestOrder 70 = .ok (.invokevirtual 391, 3) := by decide +kernel
theorem dX7_bestOrder_73 : decode cX7_bestOrder 73 = .ok (.aload_n 0, 1) := by decide +kernel
theorem dX7_bestOrder_74 : decode cX7_bestOrder 74 = .ok (.getfield 66, 3) := by decide +kernel
theorem dX7_bestOrder_77 : decode cX7_bestOrder 77 = .ok (.iload 4, 2) := by decide +kernel
theorem dX7_bestOrder_79 : decode cX7_bestOrder 79 = .ok (.invokevirtual 394, 3) := by decide +kernel
theorem dX7_bestOrder_82 : decode cX7_bestOrder 82 = .ok (.iload_n 3, 1) := by decide +kernel
theorem dX7_bestOrder_83 : decode cX7_bestOrder 83 = .ok (.aload_n 0, 1) := by decide +kernel
theorem dX7_bestOrder_84 : decode cX7_bestOrder 84 = .ok (.aload_n 0, 1) := by decide +kernel
theorem dX7_bestOrder_85 : decode cX7_bestOrder 85 = .ok (.getfield 66, 3) := by decide +kernel
theorem dX7_bestOrder_88 : decode cX7_bestOrder 88 = .ok (.invokevirtual 386, 3) := by decide +kernel
theorem dX7_bestOrder_91 : decode cX7_bestOrder 91 = .ok (.invokestatic 397, 3) := by decide +kernel
theorem dX7_bestOrder_94 : decode cX7_bestOrder 94 = .ok (.istore_n 3, 1) := by decide +kernel
theorem dX7_bestOrder_95 : decode cX7_bestOrder 95 = .ok (.iinc 4 1, 3) := by decide +kernel
theorem dX7_bestOrder_98 : decode cX7_bestOrder 98 = .ok (.goto (-42), 3) := by decide +kernel
theorem dX7_bestOrder_101 : decode cX7_bestOrder 101 = .ok (.aload_n 0, 1) := by decide +kernel
theorem dX7_bestOrder_102 : decode cX7_bestOrder 102 = .ok (.invokevirtual 359, 3) := by decide +kernel
theorem dX7_bestOrder_105 : decode cX7_bestOrder 105 = .ok (.iload_n 3, 1) := by decide +kernel
theorem dX7_bestOrder_106 : decode cX7_bestOrder 106 = .ok (.iadd, 1) := by decide +kernel
theorem dX7_bestOrder_107 : decode cX7_bestOrder 107 = .ok (.ireturn, 1) := by decide +kernel
theorem dX7_bestTeach_0 : decode cX7_bestTeach 0 = .ok (.aload_n 0, 1) := by decide +kernel
theorem dX7_bestTeach_1 : decode cX7_bestTeach 1 = .ok (.iload_n 1, 1) := by decide +kernel
theorem dX7_bestTeach_2 : decode cX7_bestTeach 2 = .ok (.invokevirtual 184, 3) := by decide +kernel
theorem dX7_bestTeach_5 : decode cX7_bestTeach 5 = .ok (.iload_n 2, 1) := by decide +kernel
theorem dX7_bestTeach_6 : decode cX7_bestTeach 6 = .ok (.invokestatic 205, 3) := by decide +kernel
theorem dX7_bestTeach_9 : decode cX7_bestTeach 9 = .ok (.aload_n 0, 1) := by decide +kernel
theorem dX7_bestTeach_10 : decode cX7_bestTeach 10 = .ok (.aload_n 0, 1) := by decide +kernel
theorem dX7_bestTeach_11 : decode cX7_bestTeach 11 = .ok (.getfield 37, 3) := by decide +kernel
theorem dX7_bestTeach_14 : decode cX7_bestTeach 14 = .ok (.invokevirtual 345, 3) := by decide +kernel
theorem dX7_bestTeach_17 : decode cX7_bestTeach 17 = .ok (.aload_n 0, 1) := by decide +kernel
theorem dX7_bestTeach_18 : decode cX7_bestTeach 18 = .ok (.getfield 69, 3) := by decide +kernel
theorem dX7_bestTeach_21 : decode cX7_bestTeach 21 = .ok (.aload_n 0, 1) := by decide +kernel
theorem dX7_bestTeach_22 : decode cX7_bestTeach 22 = .ok (.getfield 37, 3) := by decide +kernel
theorem dX7_bestTeach_25 : decode cX7_bestTeach 25 = .ok (.invokevirtual 383, 3) := by decide +kernel
theorem dX7_bestTeach_28 : decode cX7_bestTeach 28 = .ok (.iconst (-1), 1) := by decide +kernel
theorem dX7_bestTeach_29 : decode cX7_bestTeach 29 = .ok (.istore_n 3, 1) := by decide +kernel
theorem dX7_bestTeach_30 : decode cX7_bestTeach 30 = .ok (.iconst (-1), 1) := by decide +kernel
theorem dX7_bestTeach_31 : decode cX7_bestTeach 31 = .ok (.istore 4, 2) := by decide +kernel
theorem dX7_bestTeach_33 : decode cX7_bestTeach 33 = .ok (.iconst 0, 1) := by decide +kernel
theorem dX7_bestTeach_34 : decode cX7_bestTeach 34 = .ok (.istore 5, 2) := by decide +kernel
theorem dX7_bestTeach_36 : decode cX7_bestTeach 36 = .ok (.iload 5, 2) := by decide +kernel
theorem dX7_bestTeach_38 : decode cX7_bestTeach 38 = .ok (.aload_n 0, 1) := by decide +kernel
theorem dX7_bestTeach_39 : decode cX7_bestTeach 39 = .ok (.getfield 133, 3) := by decide +kernel
theorem dX7_bestTeach_42 : decode cX7_bestTeach 42 = .ok (.if_icmp .ge 55, 3) := by decide +kernel
theorem dX7_bestTeach_45 : decode cX7_bestTeach 45 = .ok (.aload_n 0, 1) := by decide +kernel
theorem dX7_bestTeach_46 : decode cX7_bestTeach 46 = .ok (.getfield 17, 3) := by decide +kernel
theorem dX7_bestTeach_49 : decode cX7_bestTeach 49 = .ok (.iload 5, 2) := by decide +kernel
theorem dX7_bestTeach_51 : decode cX7_bestTeach 51 = .ok (.aaload, 1) := by decide +kernel
theorem dX7_bestTeach_52 : decode cX7_bestTeach 52 = .ok (.getfield 208, 3) := by decide +kernel
theorem dX7_bestTeach_55 : decode cX7_bestTeach 55 = .ok (.aload_n 0, 1) := by decide +kernel
theorem dX7_bestTeach_56 : decode cX7_bestTeach 56 = .ok (.getfield 23, 3) := by decide +kernel
theorem dX7_bestTeach_59 : decode cX7_bestTeach 59 = .ok (.iload_n 1, 1) := by decide +kernel
theorem dX7_bestTeach_60 : decode cX7_bestTeach 60 = .ok (.aaload, 1) := by decide +kernel
theorem dX7_bestTeach_61 : decode cX7_bestTeach 61 = .ok (.getfield 190, 3) := by decide +kernel
theorem dX7_bestTeach_64 : decode cX7_bestTeach 64 = .ok (.if_icmp .ne 27, 3) := by decide +kernel
theorem dX7_bestTeach_67 : decode cX7_bestTeach 67 = .ok (.aload_n 0, 1) := by decide +kernel
theorem dX7_bestTeach_68 : decode cX7_bestTeach 68 = .ok (.iload_n 1, 1) := by decide +kernel
theorem dX7_bestTeach_69 : decode cX7_bestTeach 69 = .ok (.iload 5, 2) := by decide +kernel
theorem dX7_bestTeach_71 : decode cX7_bestTeach 71 = .ok (.iload_n 2, 1) := by decide +kernel
theorem dX7_bestTeach_72 : decode cX7_bestTeach 72 = .ok (.invokevirtual 402, 3) := by decide +kernel
theorem dX7_bestTeach_75 : decode cX7_bestTeach 75 = .ok (.istore 6, 2) := by decide +kernel
theorem dX7_bestTeach_77 : decode cX7_bestTeach 77 = .ok (.iload 6, 2) := by decide +kernel
theorem dX7_bestTeach_79 : decode cX7_bestTeach 79 = .ok (.iload 4, 2) := by decide +kernel
theorem dX7_bestTeach_81 : decode cX7_bestTeach 81 = .ok (.if_icmp .le 10, 3) := by decide +kernel
theorem dX7_bestTeach_84 : decode cX7_bestTeach 84 = .ok (.iload 5, 2) := by decide +kernel
theorem dX7_bestTeach_86 : decode cX7_bestTeach 86 = .ok (.istore_n 3, 1) := by decide +kernel
theorem dX7_bestTeach_87 : decode cX7_bestTeach 87 = .ok (.iload 6, 2) := by decide +kernel
theorem dX7_bestTeach_89 : decode cX7_bestTeach 89 = .ok (.istore 4, 2) := by decide +kernel
theorem dX7_bestTeach_91 : decode cX7_bestTeach 91 = .ok (.iinc 5 1, 3) := by decide +kernel
theorem dX7_bestTeach_94 : decode cX7_bestTeach 94 = .ok (.goto (-58), 3) := by decide +kernel
theorem dX7_bestTeach_97 : decode cX7_bestTeach 97 = .ok (.iload_n 3, 1) := by decide +kernel
theorem dX7_bestTeach_98 : decode cX7_bestTeach 98 = .ok (.ireturn, 1) := by decide +kernel
theorem dX7_blowsFor_0 : decode cX7_blowsFor 0 = .ok (.aload_n 0, 1) := by decide +kernel
theorem dX7_blowsFor_1 : decode cX7_blowsFor 1 = .ok (.iload_n 1, 1) := by decide +kernel
theorem dX7_blowsFor_2 : decode cX7_blowsFor 2 = .ok (.invokevirtual 90, 3) := by decide +kernel
theorem dX7_blowsFor_5 : decode cX7_blowsFor 5 = .ok (.aload_n 0, 1) := by decide +kernel
theorem dX7_blowsFor_6 : decode cX7_blowsFor 6 = .ok (.getfield 62, 3) := by decide +kernel
theorem dX7_blowsFor_9 : decode cX7_blowsFor 9 = .ok (.aload_n 0, 1) := by decide +kernel
theorem dX7_blowsFor_10 : decode cX7_blowsFor 10 = .ok (.getfield 11, 3) := by decide +kernel
theorem dX7_blowsFor_13 : decode cX7_blowsFor 13 = .ok (.iload_n 1, 1) := by decide +kernel
theorem dX7_blowsFor_14 : decode cX7_blowsFor 14 = .ok (.aaload, 1) := by decide +kernel
theorem dX7_blowsFor_15 : decode cX7_blowsFor 15 = .ok (.invokevirtual 406, 3) := by decide +kernel
theorem dX7_blowsFor_18 : decode cX7_blowsFor 18 = .ok (.aload_n 0, 1) := by decide +kernel
theorem dX7_blowsFor_19 : decode cX7_blowsFor 19 = .ok (.getfield 62, 3) := by decide +kernel
theorem dX7_blowsFor_22 : decode cX7_blowsFor 22 = .ok (.bipush 40, 2) := by decide +kernel
theorem dX7_blowsFor_24 : decode cX7_blowsFor 24 = .ok (.invokevirtual 122, 3) := by decide +kernel
theorem dX7_blowsFor_27 : decode cX7_blowsFor 27 = .ok (.istore_n 2, 1) := by decide +kernel
theorem dX7_blowsFor_28 : decode cX7_blowsFor 28 = .ok (.aload_n 0, 1) := by decide +kernel
theorem dX7_blowsFor_29 : decode cX7_blowsFor 29 = .ok (.getfield 62, 3) := by decide +kernel
theorem dX7_blowsFor_32 : decode cX7_blowsFor 32 = .ok (.invokevirtual 315, 3) := by decide +kernel
theorem dX7_blowsFor_35 : decode cX7_blowsFor 35 = .ok (.ifCond .ne 13, 3) := by decide +kernel
theorem dX7_blowsFor_38 : decode cX7_blowsFor 38 = .ok (.aload_n 0, 1) := by decide +kernel
theorem dX7_blowsFor_39 : decode cX7_blowsFor 39 = .ok (.getfield 62, 3) := by decide +kernel
theorem dX7_blowsFor_42 : decode cX7_blowsFor 42 = .ok (.invokevirtual 409, 3) := by decide +kernel
theorem dX7_blowsFor_45 : decode cX7_blowsFor 45 = .ok (.ifCond .eq 7, 3) := by decide +kernel
theorem dX7_blowsFor_48 : decode cX7_blowsFor 48 = .ok (.iconst (-1), 1) := by decide +kernel
theorem dX7_blowsFor_49 : decode cX7_blowsFor 49 = .ok (.goto 4, 3) := by decide +kernel
theorem dX7_blowsFor_52 : decode cX7_blowsFor 52 = .ok (.iload_n 2, 1) := by decide +kernel
theorem dX7_blowsFor_53 : decode cX7_blowsFor 53 = .ok (.ireturn, 1) := by decide +kernel
theorem dX7_digest_0 : decode cX7_digest 0 = .ok (.ldc2_w 412, 3) := by decide +kernel
theorem dX7_digest_3 : decode cX7_digest 3 = .ok (.lstore_n 1, 1) := by decide +kernel
theorem dX7_digest_4 : decode cX7_digest 4 = .ok (.iconst 0, 1) := by decide +kernel
theorem dX7_digest_5 : decode cX7_digest 5 = .ok (.istore_n 3, 1) := by decide +kernel
theorem dX7_digest_6 : decode cX7_digest 6 = .ok (.iload_n 3, 1) := by decide +kernel
theorem dX7_digest_7 : decode cX7_digest 7 = .ok (.bipush 13, 2) := by decide +kernel
theorem dX7_digest_9 : decode cX7_digest 9 = .ok (.if_icmp .gt 22, 3) := by decide +kernel
theorem dX7_digest_12 : decode cX7_digest 12 = .ok (.lload_n 1, 1) := by decide +kernel
theorem dX7_digest_13 : decode cX7_digest 13 = .ok (.ldc2_w 414, 3) := by decide +kernel
theorem dX7_digest_16 : decode cX7_digest 16 = .ok (.lmul, 1) := by decide +kernel
theorem dX7_digest_17 : decode cX7_digest 17 = .ok (.aload_n 0, 1) := by decide +kernel
theorem dX7_digest_18 : decode cX7_digest 18 = .ok (.iload_n 3, 1) := by decide +kernel
theorem dX7_digest_19 : decode cX7_digest 19 = .ok (.invokevirtual 416, 3) := by decide +kernel
theorem dX7_digest_22 : decode cX7_digest 22 = .ok (.i2l, 1) := by decide +kernel
theorem dX7_digest_23 : decode cX7_digest 23 = .ok (.ladd, 1) := by decide +kernel
theorem dX7_digest_24 : decode cX7_digest 24 = .ok (.lstore_n 1, 1) := by decide +kernel
theorem dX7_digest_25 : decode cX7_digest 25 = .ok (.iinc 3 1, 3) := by decide +kernel
theorem dX7_digest_28 : decode cX7_digest 28 = .ok (.goto (-22), 3) := by decide +kernel
theorem dX7_digest_31 : decode cX7_digest 31 = .ok (.aload_n 0, 1) := by decide +kernel
theorem dX7_digest_32 : decode cX7_digest 32 = .ok (.lload_n 1, 1) := by decide +kernel
theorem dX7_digest_33 : decode cX7_digest 33 = .ok (.invokevirtual 419, 3) := by decide +kernel
theorem dX7_digest_36 : decode cX7_digest 36 = .ok (.lstore_n 1, 1) := by decide +kernel
theorem dX7_digest_37 : decode cX7_digest 37 = .ok (.aload_n 0, 1) := by decide +kernel
theorem dX7_digest_38 : decode cX7_digest 38 = .ok (.lload_n 1, 1) := by decide +kernel
theorem dX7_digest_39 : decode cX7_digest 39 = .ok (.invokevirtual 423, 3) := by decide +kernel
theorem dX7_digest_42 : decode cX7_digest 42 = .ok (.lstore_n 1, 1) := by decide +kernel
theorem dX7_digest_43 : decode cX7_digest 43 = .ok (.aload_n 0, 1) := by decide +kernel
theorem dX7_digest_44 : decode cX7_digest 44 = .ok (.lload_n 1, 1) := by decide +kernel
theorem dX7_digest_45 : decode cX7_digest 45 = .ok (.invokevirtual 426, 3) := by decide +kernel
theorem dX7_digest_48 : decode cX7_digest 48 = .ok (.lstore_n 1, 1) := by decide +kernel
theorem dX7_digest_49 : decode cX7_digest 49 = .ok (.aload_n 0, 1) := by decide +kernel
theorem dX7_digest_50 : decode cX7_digest 50 = .ok (.lload_n 1, 1) := by decide +kernel
theorem dX7_digest_51 : decode cX7_digest 51 = .ok (.invokevirtual 429, 3) := by decide +kernel
theorem dX7_digest_54 : decode cX7_digest 54 = .ok (.lstore_n 1, 1) := by decide +kernel
theorem dX7_digest_55 : decode cX7_digest 55 = .ok (.iconst 0, 1) := by decide +kernel
theorem dX7_digest_56 : decode cX7_digest 56 = .ok (.istore_n 3, 1) := by decide +kernel
theorem dX7_digest_57 : decode cX7_digest 57 = .ok (.iload_n 3, 1) := by decide +kernel
theorem dX7_digest_58 : decode cX7_digest 58 = .ok (.iconst 3, 1) := by decide +kernel
theorem dX7_digest_59 : decode cX7_digest 59 = .ok (.if_icmp .ge 37, 3) := by decide +kernel
theorem dX7_digest_62 : decode cX7_digest 62 = .ok (.lload_n 1, 1) := by decide +kernel
theorem dX7_digest_63 : decode cX7_digest 63 = .ok (.ldc2_w 414, 3) := by decide +kernel
theorem dX7_digest_66 : decode cX7_digest 66 = .ok (.lmul, 1) := by decide +kernel
theorem dX7_digest_67 : decode cX7_digest 67 = .ok (.aload_n 0, 1) := by decide +kernel
theorem dX7_digest_68 : decode cX7_digest 68 = .ok (.iload_n 3, 1) := by decide +kernel
theorem dX7_digest_69 : decode cX7_digest 69 = .ok (.iconst 0, 1) := by decide +kernel
theorem dX7_digest_70 : decode cX7_digest 70 = .ok (.invokevirtual 432, 3) := by decide +kernel
theorem dX7_digest_73 : decode cX7_digest 73 = .ok (.i2l, 1) := by decide +kernel
theorem dX7_digest_74 : decode cX7_digest 74 = .ok (.ladd, 1) := by decide +kernel
theorem dX7_digest_75 : decode cX7_digest 75 = .ok (.lstore_n 1, 1) := by decide +kernel
theorem dX7_digest_76 : decode cX7_digest 76 = .ok (.lload_n 1, 1) := by decide +kernel
theorem dX7_digest_77 : decode cX7_digest 77 = .ok (.ldc2_w 414, 3) := by decide +kernel
theorem dX7_digest_80 : decode cX7_digest 80 = .ok (.lmul, 1) := by decide +kernel
theorem dX7_digest_81 : decode cX7_digest 81 = .ok (.aload_n 0, 1) := by decide +kernel
theorem dX7_digest_82 : decode cX7_digest 82 = .ok (.iload_n 3, 1) := by decide +kernel
theorem dX7_digest_83 : decode cX7_digest 83 = .ok (.iconst 1, 1) := by decide +kernel
theorem dX7_digest_84 : decode cX7_digest 84 = .ok (.invokevirtual 432, 3) := by decide +kernel
theorem dX7_digest_87 : decode cX7_digest 87 = .ok (.i2l, 1) := by decide +kernel
theorem dX7_digest_88 : decode cX7_digest 88 = .ok (.ladd, 1) := by decide +kernel
theorem dX7_digest_89 : decode cX7_digest 89 = .ok (.lstore_n 1, 1) := by decide +kernel
theorem dX7_digest_90 : decode cX7_digest 90 = .ok (.iinc 3 1, 3) := by decide +kernel
theorem dX7_digest_93 : decode cX7_digest 93 = .ok (.goto (-36), 3) := by decide +kernel
theorem dX7_digest_96 : decode cX7_digest 96 = .ok (.lload_n 1, 1) := by decide +kernel
theorem dX7_digest_97 : decode cX7_digest 97 = .ok (.ldc2_w 414, 3) := by decide +kernel
theorem dX7_digest_100 : decode cX7_digest 100 = .ok (.lmul, 1) := by decide +kernel
theorem dX7_digest_101 : decode cX7_digest 101 = .ok (.aload_n 0, 1) := by decide +kernel
theorem dX7_digest_102 : decode cX7_digest 102 = .ok (.iconst 5, 1) := by decide +kernel
theorem dX7_digest_103 : decode cX7_digest 103 = .ok (.invokevirtual 435, 3) := by decide +kernel
theorem dX7_digest_106 : decode cX7_digest 106 = .ok (.i2l, 1) := by decide +kernel
theorem dX7_digest_107 : decode cX7_digest 107 = .ok (.ladd, 1) := by decide +kernel
theorem dX7_digest_108 : decode cX7_digest 108 = .ok (.lstore_n 1, 1) := by decide +kernel
theorem dX7_digest_109 : decode cX7_digest 109 = .ok (.aload_n 0, 1) := by decide +kernel
theorem dX7_digest_110 : decode cX7_digest 110 = .ok (.getfield 30, 3) := by decide +kernel
theorem dX7_digest_113 : decode cX7_digest 113 = .ok (.getfield 160, 3) := by decide +kernel
theorem dX7_digest_116 : decode cX7_digest 116 = .ok (.iconst 5, 1) := by decide +kernel
theorem dX7_digest_117 : decode cX7_digest 117 = .ok (.if_icmp .gt 15, 3) := by decide +kernel
theorem dX7_digest_120 : decode cX7_digest 120 = .ok (.lload_n 1, 1) := by decide +kernel
theorem dX7_digest_121 : decode cX7_digest 121 = .ok (.ldc2_w 414, 3) := by decide +kernel
theorem dX7_digest_124 : decode cX7_digest 124 = .ok (.lmul, 1) := by decide +kernel
theorem dX7_digest_125 : decode cX7_digest 125 = .ok (.aload_n 0, 1) := by decide +kernel
theorem dX7_digest_126 : decode cX7_digest 126 = .ok (.invokevirtual 438, 3) := by decide +kernel
theorem dX7_digest_129 : decode cX7_digest 129 = .ok (.i2l, 1) := by decide +kernel
theorem dX7_digest_130 : decode cX7_digest 130 = .ok (.ladd, 1) := by decide +kernel
theorem dX7_digest_131 : decode cX7_digest 131 = .ok (.lstore_n 1, 1) := by decide +kernel
theorem dX7_digest_132 : decode cX7_digest 132 = .ok (.lload_n 1, 1) := by decide +kernel
theorem dX7_digest_133 : decode cX7_digest 133 = .ok (.lreturn, 1) := by decide +kernel
theorem dX7_digestPans_0 : decode cX7_digestPans 0 = .ok (.lload_n 1, 1) := by decide +kernel
theorem dX7_digestPans_1 : decode cX7_digestPans 1 = .ok (.lstore_n 3, 1) := by decide +kernel
theorem dX7_digestPans_2 : decode cX7_digestPans 2 = .ok (.iconst 0, 1) := by decide +kernel
theorem dX7_digestPans_3 : decode cX7_digestPans 3 = .ok (.istore 5, 2) := by decide +kernel
theorem dX7_digestPans_5 : decode cX7_digestPans 5 = .ok (.iload 5, 2) := by decide +kernel
theorem dX7_digestPans_7 : decode cX7_digestPans 7 = .ok (.aload_n 0, 1) := by decide +kernel
theorem dX7_digestPans_8 : decode cX7_digestPans 8 = .ok (.getfield 80, 3) := by decide +kernel
theorem dX7_digestPans_11 : decode cX7_digestPans 11 = .ok (.if_icmp .ge 86, 3) := by decide +kernel
theorem dX7_digestPans_14 : decode cX7_digestPans 14 = .ok (.iconst 0, 1) := by decide +kernel
theorem dX7_digestPans_15 : decode cX7_digestPans 15 = .ok (.istore 6, 2) := by decide +kernel
theorem dX7_digestPans_17 : decode cX7_digestPans 17 = .ok (.iload 6, 2) := by decide +kernel
theorem dX7_digestPans_19 : decode cX7_digestPans 19 = .ok (.iconst 4, 1) := by decide +kernel
theorem dX7_digestPans_20 : decode cX7_digestPans 20 = .ok (.if_icmp .gt 25, 3) := by decide +kernel
theorem dX7_digestPans_23 : decode cX7_digestPans 23 = .ok (.lload_n 3, 1) := by decide +kernel
theorem dX7_digestPans_24 : decode cX7_digestPans 24 = .ok (.ldc2_w 414, 3) := by decide +kernel
theorem dX7_digestPans_27 : decode cX7_digestPans 27 = .ok (.lmul, 1) := by decide +kernel
theorem dX7_digestPans_28 : decode cX7_digestPans 28 = .ok (.aload_n 0, 1) := by decide +kernel
theorem dX7_digestPans_29 : decode cX7_digestPans 29 = .ok (.iload 5, 2) := by decide +kernel
theorem dX7_digestPans_31 : decode cX7_digestPans 31 = .ok (.iload 6, 2) := by decide +kernel
theorem dX7_digestPans_33 : decode cX7_digestPans 33 = .ok (.invokevirtual 441, 3) := by decide +kernel
theorem dX7_digestPans_36 : decode cX7_digestPans 36 = .ok (.i2l, 1) := by decide +kernel
theorem dX7_digestPans_37 : decode cX7_digestPans 37 = .ok (.ladd, 1) := by decide +kernel
theorem dX7_digestPans_38 : decode cX7_digestPans 38 = .ok (.lstore_n 3, 1) := by decide +kernel
theorem dX7_digestPans_39 : decode cX7_digestPans 39 = .ok (.iinc 6 1, 3) := by decide +kernel
theorem dX7_digestPans_42 : decode cX7_digestPans 42 = .ok (.goto (-25), 3) := by decide +kernel
theorem dX7_digestPans_45 : decode cX7_digestPans 45 = .ok (.iconst 0, 1) := by decide +kernel
theorem dX7_digestPans_46 : decode cX7_digestPans 46 = .ok (.istore 6, 2) := by decide +kernel
theorem dX7_digestPans_48 : decode cX7_digestPans 48 = .ok (.iload 6, 2) := by decide +kernel
theorem dX7_digestPans_50 : decode cX7_digestPans 50 = .ok (.bipush 8, 2) := by decide +kernel
theorem dX7_digestPans_52 : decode cX7_digestPans 52 = .ok (.if_icmp .ge 25, 3) := by decide +kernel
theorem dX7_digestPans_55 : decode cX7_digestPans 55 = .ok (.lload_n 3, 1) := by decide +kernel
theorem dX7_digestPans_56 : decode cX7_digestPans 56 = .ok (.ldc2_w 414, 3) := by decide +kernel
theorem dX7_digestPans_59 : decode cX7_digestPans 59 = .ok (.lmul, 1) := by decide +kernel
theorem dX7_digestPans_60 : decode cX7_digestPans 60 = .ok (.aload_n 0, 1) := by decide +kernel
theorem dX7_digestPans_61 : decode cX7_digestPans 61 = .ok (.iload 5, 2) := by decide +kernel
theorem dX7_digestPans_63 : decode cX7_digestPans 63 = .ok (.iload 6, 2) := by decide +kernel
theorem dX7_digestPans_65 : decode cX7_digestPans 65 = .ok (.invokevirtual 444, 3) := by decide +kernel
theorem dX7_digestPans_68 : decode cX7_digestPans 68 = .ok (.i2l, 1) := by decide +kernel
theorem dX7_digestPans_69 : decode cX7_digestPans 69 = .ok (.ladd, 1) := by decide +kernel
theorem dX7_digestPans_70 : decode cX7_digestPans 70 = .ok (.lstore_n 3, 1) := by decide +kernel
theorem dX7_digestPans_71 : decode cX7_digestPans 71 = .ok (.iinc 6 1, 3) := by decide +kernel
theorem dX7_digestPans_74 : decode cX7_digestPans 74 = .ok (.goto (-26), 3) := by decide +kernel
theorem dX7_digestPans_77 : decode cX7_digestPans 77 = .ok (.lload_n 3, 1) := by decide +kernel
theorem dX7_digestPans_78 : decode cX7_digestPans 78 = .ok (.ldc2_w 414, 3) := by decide +kernel
theorem dX7_digestPans_81 : decode cX7_digestPans 81 = .ok (.lmul, 1) := by decide +kernel
theorem dX7_digestPans_82 : decode cX7_digestPans 82 = .ok (.aload_n 0, 1) := by decide +kernel
theorem dX7_digestPans_83 : decode cX7_digestPans 83 = .ok (.iload 5, 2) := by decide +kernel
theorem dX7_digestPans_85 : decode cX7_digestPans 85 = .ok (.invokevirtual 447, 3) := by decide +kernel
theorem dX7_digestPans_88 : decode cX7_digestPans 88 = .ok (.i2l, 1) := by decide +kernel
theorem dX7_digestPans_89 : decode cX7_digestPans 89 = .ok (.ladd, 1) := by decide +kernel
theorem dX7_digestPans_90 : decode cX7_digestPans 90 = .ok (.lstore_n 3, 1) := by decide +kernel
theorem dX7_digestPans_91 : decode cX7_digestPans 91 = .ok (.iinc 5 1, 3) := by decide +kernel
theorem dX7_digestPans_94 : decode cX7_digestPans 94 = .ok (.goto (-89), 3) := by decide +kernel
theorem dX7_digestPans_97 : decode cX7_digestPans 97 = .ok (.lload_n 3, 1) := by decide +kernel
theorem dX7_digestPans_98 : decode cX7_digestPans 98 = .ok (.lreturn, 1) := by decide +kernel
theorem dX7_digestPhrases_0 : decode cX7_digestPhrases 0 = .ok (.lload_n 1, 1) := by decide +kernel
theorem dX7_digestPhrases_1 : decode cX7_digestPhrases 1 = .ok (.lstore_n 3, 1) := by decide +kernel
theorem dX7_digestPhrases_2 : decode cX7_digestPhrases 2 = .ok (.iconst 0, 1) := by decide +kernel
theorem dX7_digestPhrases_3 : decode cX7_digestPhrases 3 = .ok (.istore 5, 2) := by decide +kernel
theorem dX7_digestPhrases_5 : decode cX7_digestPhrases 5 = .ok (.iload 5, 2) := by decide +kernel
theorem dX7_digestPhrases_7 : decode cX7_digestPhrases 7 = .ok (.aload_n 0, 1) := by decide +kernel
theorem dX7_digestPhrases_8 : decode cX7_digestPhrases 8 = .ok (.getfield 133, 3) := by decide +kernel
theorem dX7_digestPhrases_11 : decode cX7_digestPhrases 11 = .ok (.if_icmp .ge 40, 3) := by decide +kernel
theorem dX7_digestPhrases_14 : decode cX7_digestPhrases 14 = .ok (.iconst 0, 1) := by decide +kernel
theorem dX7_digestPhrases_15 : decode cX7_digestPhrases 15 = .ok (.istore 6, 2) := by decide +kernel
theorem dX7_digestPhrases_17 : decode cX7_digestPhrases 17 = .ok (.iload 6, 2) := by decide +kernel
theorem dX7_digestPhrases_19 : decode cX7_digestPhrases 19 = .ok (.iconst 4, 1) := by decide +kernel
theorem dX7_digestPhrases_20 : decode cX7_digestPhrases 20 = .ok (.if_icmp .gt 25, 3) := by decide +kernel
theorem dX7_digestPhrases_23 : decode cX7_digestPhrases 23 = .ok (.lload_n 3, 1) := by decide +kernel
theorem dX7_digestPhrases_24 : decode cX7_digestPhrases 24 = .ok (.ldc2_w 414, 3) := by decide +kernel
theorem dX7_digestPhrases_27 : decode cX7_digestPhrases 27 = .ok (.lmul, 1) := by decide +kernel
theorem dX7_digestPhrases_28 : decode cX7_digestPhrases 28 = .ok (.aload_n 0, 1) := by decide +kernel
theorem dX7_digestPhrases_29 : decode cX7_digestPhrases 29 = .ok (.iload 5, 2) := by decide +kernel
theorem dX7_digestPhrases_31 : decode cX7_digestPhrases 31 = .ok (.iload 6, 2) := by decide +kernel
theorem dX7_digestPhrases_33 : decode cX7_digestPhrases 33 = .ok (.invokevirtual 450, 3) := by decide +kernel
theorem dX7_digestPhrases_36 : decode cX7_digestPhrases 36 = .ok (.i2l, 1) := by decide +kernel
theorem dX7_digestPhrases_37 : decode cX7_digestPhrases 37 = .ok (.ladd, 1) := by decide +kernel
theorem dX7_digestPhrases_38 : decode cX7_digestPhrases 38 = .ok (.lstore_n 3, 1) := by decide +kernel
theorem dX7_digestPhrases_39 : decode cX7_digestPhrases 39 = .ok (.iinc 6 1, 3) := by decide +kernel
theorem dX7_digestPhrases_42 : decode cX7_digestPhrases 42 = .ok (.goto (-25), 3) := by decide +kernel
theorem dX7_digestPhrases_45 : decode cX7_digestPhrases 45 = .ok (.iinc 5 1, 3) := by decide +kernel
theorem dX7_digestPhrases_48 : decode cX7_digestPhrases 48 = .ok (.goto (-43), 3) := by decide +kernel
theorem dX7_digestPhrases_51 : decode cX7_digestPhrases 51 = .ok (.lload_n 3, 1) := by decide +kernel
theorem dX7_digestPhrases_52 : decode cX7_digestPhrases 52 = .ok (.lreturn, 1) := by decide +kernel
theorem dX7_digestPlayers_0 : decode cX7_digestPlayers 0 = .ok (.lload_n 1, 1) := by decide +kernel
theorem dX7_digestPlayers_1 : decode cX7_digestPlayers 1 = .ok (.lstore_n 3, 1) := by decide +kernel
theorem dX7_digestPlayers_2 : decode cX7_digestPlayers 2 = .ok (.iconst 0, 1) := by decide +kernel
theorem dX7_digestPlayers_3 : decode cX7_digestPlayers 3 = .ok (.istore 5, 2) := by decide +kernel
theorem dX7_digestPlayers_5 : decode cX7_digestPlayers 5 = .ok (.iload 5, 2) := by decide +kernel
theorem dX7_digestPlayers_7 : decode cX7_digestPlayers 7 = .ok (.aload_n 0, 1) := by decide +kernel
theorem dX7_digestPlayers_8 : decode cX7_digestPlayers 8 = .ok (.getfield 147, 3) := by decide +kernel
theorem dX7_digestPlayers_11 : decode cX7_digestPlayers 11 = .ok (.if_icmp .ge 91, 3) := by decide +kernel
theorem dX7_digestPlayers_14 : decode cX7_digestPlayers 14 = .ok (.iconst 0, 1) := by decide +kernel
theorem dX7_digestPlayers_15 : decode cX7_digestPlayers 15 = .ok (.istore 6, 2) := by decide +kernel
theorem dX7_digestPlayers_17 : decode cX7_digestPlayers 17 = .ok (.iload 6, 2) := by decide +kernel
theorem dX7_digestPlayers_19 : decode cX7_digestPlayers 19 = .ok (.bipush 6, 2) := by decide +kernel
theorem dX7_digestPlayers_21 : decode cX7_digestPlayers 21 = .ok (.if_icmp .gt 25, 3) := by decide +kernel
theorem dX7_digestPlayers_24 : decode cX7_digestPlayers 24 = .ok (.lload_n 3, 1) := by decide +kernel
theorem dX7_digestPlayers_25 : decode cX7_digestPlayers 25 = .ok (.ldc2_w 414, 3) := by decide +kernel
theorem dX7_digestPlayers_28 : decode cX7_digestPlayers 28 = .ok (.lmul, 1) := by decide +kernel
theorem dX7_digestPlayers_29 : decode cX7_digestPlayers 29 = .ok (.aload_n 0, 1) := by decide +kernel
theorem dX7_digestPlayers_30 : decode cX7_digestPlayers 30 = .ok (.iload 5, 2) := by decide +kernel
theorem dX7_digestPlayers_32 : decode cX7_digestPlayers 32 = .ok (.iload 6, 2) := by decide +kernel
theorem dX7_digestPlayers_34 : decode cX7_digestPlayers 34 = .ok (.invokevirtual 453, 3) := by decide +kernel
theorem dX7_digestPlayers_37 : decode cX7_digestPlayers 37 = .ok (.i2l, 1) := by decide +kernel
theorem dX7_digestPlayers_38 : decode cX7_digestPlayers 38 = .ok (.ladd, 1) := by decide +kernel
theorem dX7_digestPlayers_39 : decode cX7_digestPlayers 39 = .ok (.lstore_n 3, 1) := by decide +kernel
theorem dX7_digestPlayers_40 : decode cX7_digestPlayers 40 = .ok (.iinc 6 1, 3) := by decide +kernel
theorem dX7_digestPlayers_43 : decode cX7_digestPlayers 43 = .ok (.goto (-26), 3) := by decide +kernel
theorem dX7_digestPlayers_46 : decode cX7_digestPlayers 46 = .ok (.iconst 0, 1) := by decide +kernel
theorem dX7_digestPlayers_47 : decode cX7_digestPlayers 47 = .ok (.istore 6, 2) := by decide +kernel
theorem dX7_digestPlayers_49 : decode cX7_digestPlayers 49 = .ok (.iload 6, 2) := by decide +kernel
theorem dX7_digestPlayers_51 : decode cX7_digestPlayers 51 = .ok (.aload_n 0, 1) := by decide +kernel
theorem dX7_digestPlayers_52 : decode cX7_digestPlayers 52 = .ok (.getfield 133, 3) := by decide +kernel
theorem dX7_digestPlayers_55 : decode cX7_digestPlayers 55 = .ok (.if_icmp .ge 25, 3) := by decide +kernel
theorem dX7_digestPlayers_58 : decode cX7_digestPlayers 58 = .ok (.lload_n 3, 1) := by decide +kernel
theorem dX7_digestPlayers_59 : decode cX7_digestPlayers 59 = .ok (.ldc2_w 414, 3) := by decide +kernel
theorem dX7_digestPlayers_62 : decode cX7_digestPlayers 62 = .ok (.lmul, 1) := by decide +kernel
theorem dX7_digestPlayers_63 : decode cX7_digestPlayers 63 = .ok (.aload_n 0, 1) := by decide +kernel
theorem dX7_digestPlayers_64 : decode cX7_digestPlayers 64 = .ok (.iload 5, 2) := by decide +kernel
theorem dX7_digestPlayers_66 : decode cX7_digestPlayers 66 = .ok (.iload 6, 2) := by decide +kernel
theorem dX7_digestPlayers_68 : decode cX7_digestPlayers 68 = .ok (.invokevirtual 456, 3) := by decide +kernel
theorem dX7_digestPlayers_71 : decode cX7_digestPlayers 71 = .ok (.i2l, 1) := by decide +kernel
theorem dX7_digestPlayers_72 : decode cX7_digestPlayers 72 = .ok (.ladd, 1) := by decide +kernel
theorem dX7_digestPlayers_73 : decode cX7_digestPlayers 73 = .ok (.lstore_n 3, 1) := by decide +kernel
theorem dX7_digestPlayers_74 : decode cX7_digestPlayers 74 = .ok (.iinc 6 1, 3) := by decide +kernel
theorem dX7_digestPlayers_77 : decode cX7_digestPlayers 77 = .ok (.goto (-28), 3) := by decide +kernel
theorem dX7_digestPlayers_80 : decode cX7_digestPlayers 80 = .ok (.lload_n 3, 1) := by decide +kernel
theorem dX7_digestPlayers_81 : decode cX7_digestPlayers 81 = .ok (.ldc2_w 414, 3) := by decide +kernel
theorem dX7_digestPlayers_84 : decode cX7_digestPlayers 84 = .ok (.lmul, 1) := by decide +kernel
theorem dX7_digestPlayers_85 : decode cX7_digestPlayers 85 = .ok (.aload_n 0, 1) := by decide +kernel
theorem dX7_digestPlayers_86 : decode cX7_digestPlayers 86 = .ok (.iload 5, 2) := by decide +kernel
theorem dX7_digestPlayers_88 : decode cX7_digestPlayers 88 = .ok (.bipush 20, 2) := by decide +kernel
theorem dX7_digestPlayers_90 : decode cX7_digestPlayers 90 = .ok (.invokevirtual 459, 3) := by decide +kernel
theorem dX7_digestPlayers_93 : decode cX7_digestPlayers 93 = .ok (.i2l, 1) := by decide +kernel
theorem dX7_digestPlayers_94 : decode cX7_digestPlayers 94 = .ok (.ladd, 1) := by decide +kernel
theorem dX7_digestPlayers_95 : decode cX7_digestPlayers 95 = .ok (.lstore_n 3, 1) := by decide +kernel
theorem dX7_digestPlayers_96 : decode cX7_digestPlayers 96 = .ok (.iinc 5 1, 3) := by decide +kernel
theorem dX7_digestPlayers_99 : decode cX7_digestPlayers 99 = .ok (.goto (-94), 3) := by decide +kernel
theorem dX7_digestPlayers_102 : decode cX7_digestPlayers 102 = .ok (.lload_n 3, 1) := by decide +kernel
theorem dX7_digestPlayers_103 : decode cX7_digestPlayers 103 = .ok (.lreturn, 1) := by decide +kernel
theorem dX7_digestPlacesAndMarks_0 : decode cX7_digestPlacesAndMarks 0 = .ok (.lload_n 1, 1) := by decide +kernel
theorem dX7_digestPlacesAndMarks_1 : decode cX7_digestPlacesAndMarks 1 = .ok (.lstore_n 3, 1) := by decide +kernel
theorem dX7_digestPlacesAndMarks_2 : decode cX7_digestPlacesAndMarks 2 = .ok (.iconst 0, 1) := by decide +kernel
theorem dX7_digestPlacesAndMarks_3 : decode cX7_digestPlacesAndMarks 3 = .ok (.istore 5, 2) := by decide +kernel
theorem dX7_digestPlacesAndMarks_5 : decode cX7_digestPlacesAndMarks 5 = .ok (.iload 5, 2) := by decide +kernel
theorem dX7_digestPlacesAndMarks_7 : decode cX7_digestPlacesAndMarks 7 = .ok (.aload_n 0, 1) := by decide +kernel
theorem dX7_digestPlacesAndMarks_8 : decode cX7_digestPlacesAndMarks 8 = .ok (.getfield 30, 3) := by decide +kernel
theorem dX7_digestPlacesAndMarks_11 : decode cX7_digestPlacesAndMarks 11 = .ok (.getfield 160, 3) := by decide +kernel
theorem dX7_digestPlacesAndMarks_14 : decode cX7_digestPlacesAndMarks 14 = .ok (.if_icmp .ge 39, 3) := by decide +kernel
theorem dX7_digestPlacesAndMarks_17 : decode cX7_digestPlacesAndMarks 17 = .ok (.lload_n 3, 1) := by decide +kernel
theorem dX7_digestPlacesAndMarks_18 : decode cX7_digestPlacesAndMarks 18 = .ok (.ldc2_w 414, 3) := by decide +kernel
theorem dX7_digestPlacesAndMarks_21 : decode cX7_digestPlacesAndMarks 21 = .ok (.lmul, 1) := by decide +kernel
theorem dX7_digestPlacesAndMarks_22 : decode cX7_digestPlacesAndMarks 22 = .ok (.aload_n 0, 1) := by decide +kernel
theorem dX7_digestPlacesAndMarks_23 : decode cX7_digestPlacesAndMarks 23 = .ok (.iload 5, 2) := by decide +kernel
theorem dX7_digestPlacesAndMarks_25 : decode cX7_digestPlacesAndMarks 25 = .ok (.iconst 0, 1) := by decide +kernel
theorem dX7_digestPlacesAndMarks_26 : decode cX7_digestPlacesAndMarks 26 = .ok (.invokevirtual 462, 3) := by decide +kernel
theorem dX7_digestPlacesAndMarks_29 : decode cX7_digestPlacesAndMarks 29 = .ok (.i2l, 1) := by decide +kernel
theorem dX7_digestPlacesAndMarks_30 : decode cX7_digestPlacesAndMarks 30 = .ok (.ladd, 1) := by decide +kernel
theorem dX7_digestPlacesAndMarks_31 : decode cX7_digestPlacesAndMarks 31 = .ok (.lstore_n 3, 1) := by decide +kernel
theorem dX7_digestPlacesAndMarks_32 : decode cX7_digestPlacesAndMarks 32 = .ok (.lload_n 3, 1) := by decide +kernel
theorem dX7_digestPlacesAndMarks_33 : decode cX7_digestPlacesAndMarks 33 = .ok (.ldc2_w 414, 3) := by decide +kernel
theorem dX7_digestPlacesAndMarks_36 : decode cX7_digestPlacesAndMarks 36 = .ok (.lmul, 1) := by decide +kernel
theorem dX7_digestPlacesAndMarks_37 : decode cX7_digestPlacesAndMarks 37 = .ok (.aload_n 0, 1) := by decide +kernel
theorem dX7_digestPlacesAndMarks_38 : decode cX7_digestPlacesAndMarks 38 = .ok (.iload 5, 2) := by decide +kernel
theorem dX7_digestPlacesAndMarks_40 : decode cX7_digestPlacesAndMarks 40 = .ok (.iconst 1, 1) := by decide +kernel
theorem dX7_digestPlacesAndMarks_41 : decode cX7_digestPlacesAndMarks 41 = .ok (.invokevirtual 462, 3) := by decide +kernel
theorem dX7_digestPlacesAndMarks_44 : decode cX7_digestPlacesAndMarks 44 = .ok (.i2l, 1) := by decide +kernel
theorem dX7_digestPlacesAndMarks_45 : decode cX7_digestPlacesAndMarks 45 = .ok (.ladd, 1) := by decide +kernel
theorem dX7_digestPlacesAndMarks_46 : decode cX7_digestPlacesAndMarks 46 = .ok (.lstore_n 3, 1) := by decide +kernel
theorem dX7_digestPlacesAndMarks_47 : decode cX7_digestPlacesAndMarks 47 = .ok (.iinc 5 1, 3) := by decide +kernel
theorem dX7_digestPlacesAndMarks_50 : decode cX7_digestPlacesAndMarks 50 = .ok (.goto (-45), 3) := by decide +kernel
theorem dX7_digestPlacesAndMarks_53 : decode cX7_digestPlacesAndMarks 53 = .ok (.iconst 0, 1) := by decide +kernel
theorem dX7_digestPlacesAndMarks_54 : decode cX7_digestPlacesAndMarks 54 = .ok (.istore 5, 2) := by decide +kernel
theorem dX7_digestPlacesAndMarks_56 : decode cX7_digestPlacesAndMarks 56 = .ok (.iload 5, 2) := by decide +kernel
theorem dX7_digestPlacesAndMarks_58 : decode cX7_digestPlacesAndMarks 58 = .ok (.iconst 4, 1) := by decide +kernel
theorem dX7_digestPlacesAndMarks_59 : decode cX7_digestPlacesAndMarks 59 = .ok (.if_icmp .ge 23, 3) := by decide +kernel
theorem dX7_digestPlacesAndMarks_62 : decode cX7_digestPlacesAndMarks 62 = .ok (.lload_n 3, 1) := by decide +kernel
theorem dX7_digestPlacesAndMarks_63 : decode cX7_digestPlacesAndMarks 63 = .ok (.ldc2_w 414, 3) := by decide +kernel
theorem dX7_digestPlacesAndMarks_66 : decode cX7_digestPlacesAndMarks 66 = .ok (.lmul, 1) := by decide +kernel
theorem dX7_digestPlacesAndMarks_67 : decode cX7_digestPlacesAndMarks 67 = .ok (.aload_n 0, 1) := by decide +kernel
theorem dX7_digestPlacesAndMarks_68 : decode cX7_digestPlacesAndMarks 68 = .ok (.iload 5, 2) := by decide +kernel
theorem dX7_digestPlacesAndMarks_70 : decode cX7_digestPlacesAndMarks 70 = .ok (.invokevirtual 465, 3) := by decide +kernel
theorem dX7_digestPlacesAndMarks_73 : decode cX7_digestPlacesAndMarks 73 = .ok (.i2l, 1) := by decide +kernel
theorem dX7_digestPlacesAndMarks_74 : decode cX7_digestPlacesAndMarks 74 = .ok (.ladd, 1) := by decide +kernel
theorem dX7_digestPlacesAndMarks_75 : decode cX7_digestPlacesAndMarks 75 = .ok (.lstore_n 3, 1) := by decide +kernel
theorem dX7_digestPlacesAndMarks_76 : decode cX7_digestPlacesAndMarks 76 = .ok (.iinc 5 1, 3) := by decide +kernel
theorem dX7_digestPlacesAndMarks_79 : decode cX7_digestPlacesAndMarks 79 = .ok (.goto (-23), 3) := by decide +kernel
theorem dX7_digestPlacesAndMarks_82 : decode cX7_digestPlacesAndMarks 82 = .ok (.lload_n 3, 1) := by decide +kernel
theorem dX7_digestPlacesAndMarks_83 : decode cX7_digestPlacesAndMarks 83 = .ok (.lreturn, 1) := by decide +kernel
theorem dX7_isWithin_0 : decode cX7_isWithin 0 = .ok (.iload_n 0, 1) := by decide +kernel
theorem dX7_isWithin_1 : decode cX7_isWithin 1 = .ok (.iload_n 1, 1) := by decide +kernel
theorem dX7_isWithin_2 : decode cX7_isWithin 2 = .ok (.if_icmp .lt 12, 3) := by decide +kernel
theorem dX7_isWithin_5 : decode cX7_isWithin 5 = .ok (.iload_n 0, 1) := by decide +kernel
theorem dX7_isWithin_6 : decode cX7_isWithin 6 = .ok (.iload_n 2, 1) := by decide +kernel
theorem dX7_isWithin_7 : decode cX7_isWithin 7 = .ok (.if_icmp .gt 7, 3) := by decide +kernel
theorem dX7_isWithin_10 : decode cX7_isWithin 10 = .ok (.iconst 1, 1) := by decide +kernel
theorem dX7_isWithin_11 : decode cX7_isWithin 11 = .ok (.goto 4, 3) := by decide +kernel
theorem dX7_isWithin_14 : decode cX7_isWithin 14 = .ok (.iconst 0, 1) := by decide +kernel
theorem dX7_isWithin_15 : decode cX7_isWithin 15 = .ok (.ireturn, 1) := by decide +kernel
theorem dX7_held_0 : decode cX7_held 0 = .ok (.iload_n 0, 1) := by decide +kernel
theorem dX7_held_1 : decode cX7_held 1 = .ok (.iload_n 1, 1) := by decide +kernel
theorem dX7_held_2 : decode cX7_held 2 = .ok (.if_icmp .ge 5, 3) := by decide +kernel
theorem dX7_held_5 : decode cX7_held 5 = .ok (.iload_n 1, 1) := by decide +kernel
theorem dX7_held_6 : decode cX7_held 6 = .ok (.ireturn, 1) := by decide +kernel
theorem dX7_held_7 : decode cX7_held 7 = .ok (.iload_n 0, 1) := by decide +kernel
theorem dX7_held_8 : decode cX7_held 8 = .ok (.iload_n 2, 1) := by decide +kernel
theorem dX7_held_9 : decode cX7_held 9 = .ok (.if_icmp .le 7, 3) := by decide +kernel
theorem dX7_held_12 : decode cX7_held 12 = .ok (.iload_n 2, 1) := by decide +kernel
theorem dX7_held_13 : decode cX7_held 13 = .ok (.goto 4, 3) := by decide +kernel
theorem dX7_held_16 : decode cX7_held 16 = .ok (.iload_n 0, 1) := by decide +kernel
theorem dX7_held_17 : decode cX7_held 17 = .ok (.ireturn, 1) := by decide +kernel
theorem dX7_requireSection_0 : decode cX7_requireSection 0 = .ok (.iload_n 0, 1) := by decide +kernel
theorem dX7_requireSection_1 : decode cX7_requireSection 1 = .ok (.iconst 0, 1) := by decide +kernel
theorem dX7_requireSection_2 : decode cX7_requireSection 2 = .ok (.iconst 3, 1) := by decide +kernel
theorem dX7_requireSection_3 : decode cX7_requireSection 3 = .ok (.invokestatic 96, 3) := by decide +kernel
theorem dX7_requireSection_6 : decode cX7_requireSection 6 = .ok (.ifCond .ne 14, 3) := by decide +kernel
theorem dX7_requireSection_9 : decode cX7_requireSection 9 = .ok (.new 276, 3) := by decide +kernel
theorem dX7_requireSection_12 : decode cX7_requireSection 12 = .ok (.dup, 1) := by decide +kernel
theorem dX7_requireSection_13 : decode cX7_requireSection 13 = .ok (.ldc_w 468, 3) := by decide +kernel
theorem dX7_requireSection_16 : decode cX7_requireSection 16 = .ok (.invokespecial 280, 3) := by decide +kernel
theorem dX7_requireSection_19 : decode cX7_requireSection 19 = .ok (.athrow, 1) := by decide +kernel
theorem dX7_requireSection_20 : decode cX7_requireSection 20 = .ok (.return_, 1) := by decide +kernel
theorem dX7_requireNote_0 : decode cX7_requireNote 0 = .ok (.iload_n 0, 1) := by decide +kernel
theorem dX7_requireNote_1 : decode cX7_requireNote 1 = .ok (.iconst 0, 1) := by decide +kernel
theorem dX7_requireNote_2 : decode cX7_requireNote 2 = .ok (.bipush 7, 2) := by decide +kernel
theorem dX7_requireNote_4 : decode cX7_requireNote 4 = .ok (.invokestatic 96, 3) := by decide +kernel
theorem dX7_requireNote_7 : decode cX7_requireNote 7 = .ok (.ifCond .ne 14, 3) := by decide +kernel
theorem dX7_requireNote_10 : decode cX7_requireNote 10 = .ok (.new 276, 3) := by decide +kernel
theorem dX7_requireNote_13 : decode cX7_requireNote 13 = .ok (.dup, 1) := by decide +kernel
theorem dX7_requireNote_14 : decode cX7_requireNote 14 = .ok (.ldc_w 470, 3) := by decide +kernel
theorem dX7_requireNote_17 : decode cX7_requireNote 17 = .ok (.invokespecial 280, 3) := by decide +kernel
theorem dX7_requireNote_20 : decode cX7_requireNote 20 = .ok (.athrow, 1) := by decide +kernel
theorem dX7_requireNote_21 : decode cX7_requireNote 21 = .ok (.return_, 1) := by decide +kernel
theorem dX7_requirePhraseWords_0 : decode cX7_requirePhraseWords 0 = .ok (.iload_n 0, 1) := by decide +kernel
theorem dX7_requirePhraseWords_1 : decode cX7_requirePhraseWords 1 = .ok (.iconst 1, 1) := by decide +kernel
theorem dX7_requirePhraseWords_2 : decode cX7_requirePhraseWords 2 = .ok (.bipush 9, 2) := by decide +kernel
theorem dX7_requirePhraseWords_4 : decode cX7_requirePhraseWords 4 = .ok (.invokestatic 96, 3) := by decide +kernel
theorem dX7_requirePhraseWords_7 : decode cX7_requirePhraseWords 7 = .ok (.ifCond .ne 14, 3) := by decide +kernel
theorem dX7_requirePhraseWords_10 : decode cX7_requirePhraseWords 10 = .ok (.new 100, 3) := by decide +kernel
theorem dX7_requirePhraseWords_13 : decode cX7_requirePhraseWords 13 = .ok (.dup, 1) := by decide +kernel
theorem dX7_requirePhraseWords_14 : decode cX7_requirePhraseWords 14 = .ok (.ldc_w 472, 3) := by decide +kernel
theorem dX7_requirePhraseWords_17 : decode cX7_requirePhraseWords 17 = .ok (.invokespecial 104, 3) := by decide +kernel
theorem dX7_requirePhraseWords_20 : decode cX7_requirePhraseWords 20 = .ok (.athrow, 1) := by decide +kernel
theorem dX7_requirePhraseWords_21 : decode cX7_requirePhraseWords 21 = .ok (.iload_n 1, 1) := by decide +kernel
theorem dX7_requirePhraseWords_22 : decode cX7_requirePhraseWords 22 = .ok (.iconst 1, 1) := by decide +kernel
theorem dX7_requirePhraseWords_23 : decode cX7_requirePhraseWords 23 = .ok (.sipush 255, 3) := by decide +kernel
theorem dX7_requirePhraseWords_26 : decode cX7_requirePhraseWords 26 = .ok (.invokestatic 96, 3) := by decide +kernel
theorem dX7_requirePhraseWords_29 : decode cX7_requirePhraseWords 29 = .ok (.ifCond .ne 14, 3) := by decide +kernel
theorem dX7_requirePhraseWords_32 : decode cX7_requirePhraseWords 32 = .ok (.new 100, 3) := by decide +kernel
theorem dX7_requirePhraseWords_35 : decode cX7_requirePhraseWords 35 = .ok (.dup, 1) := by decide +kernel
theorem dX7_requirePhraseWords_36 : decode cX7_requirePhraseWords 36 = .ok (.ldc_w 474, 3) := by decide +kernel
theorem dX7_requirePhraseWords_39 : decode cX7_requirePhraseWords 39 = .ok (.invokespecial 104, 3) := by decide +kernel
theorem dX7_requirePhraseWords_42 : decode cX7_requirePhraseWords 42 = .ok (.athrow, 1) := by decide +kernel
theorem dX7_requirePhraseWords_43 : decode cX7_requirePhraseWords 43 = .ok (.return_, 1) := by decide +kernel
theorem dX7_requireLesson_0 : decode cX7_requireLesson 0 = .ok (.iload_n 0, 1) := by decide +kernel
theorem dX7_requireLesson_1 : decode cX7_requireLesson 1 = .ok (.iconst 1, 1) := by decide +kernel
theorem dX7_requireLesson_2 : decode cX7_requireLesson 2 = .ok (.bipush 60, 2) := by decide +kernel
theorem dX7_requireLesson_4 : decode cX7_requireLesson 4 = .ok (.invokestatic 96, 3) := by decide +kernel
theorem dX7_requireLesson_7 : decode cX7_requireLesson 7 = .ok (.ifCond .ne 14, 3) := by decide +kernel
theorem dX7_requireLesson_10 : decode cX7_requireLesson 10 = .ok (.new 100, 3) := by decide +kernel
theorem dX7_requireLesson_13 : decode cX7_requireLesson 13 = .ok (.dup, 1) := by decide +kernel
theorem dX7_requireLesson_14 : decode cX7_requireLesson 14 = .ok (.ldc_w 476, 3) := by decide +kernel
theorem dX7_requireLesson_17 : decode cX7_requireLesson 17 = .ok (.invokespecial 104, 3) := by decide +kernel
theorem dX7_requireLesson_20 : decode cX7_requireLesson 20 = .ok (.athrow, 1) := by decide +kernel
theorem dX7_requireLesson_21 : decode cX7_requireLesson 21 = .ok (.return_, 1) := by decide +kernel
theorem dX7_requirePan_0 : decode cX7_requirePan 0 = .ok (.iload_n 1, 1) := by decide +kernel
theorem dX7_requirePan_1 : decode cX7_requirePan 1 = .ok (.iconst 0, 1) := by decide +kernel
theorem dX7_requirePan_2 : decode cX7_requirePan 2 = .ok (.aload_n 0, 1) := by decide +kernel
theorem dX7_requirePan_3 : decode cX7_requirePan 3 = .ok (.getfield 80, 3) := by decide +kernel
theorem dX7_requirePan_6 : decode cX7_requirePan 6 = .ok (.iconst 1, 1) := by decide +kernel
theorem dX7_requirePan_7 : decode cX7_requirePan 7 = .ok (.isub, 1) := by decide +kernel
theorem dX7_requirePan_8 : decode cX7_requirePan 8 = .ok (.invokestatic 96, 3) := by decide +kernel
theorem dX7_requirePan_11 : decode cX7_requirePan 11 = .ok (.ifCond .ne 14, 3) := by decide +kernel
theorem dX7_requirePan_14 : decode cX7_requirePan 14 = .ok (.new 276, 3) := by decide +kernel
theorem dX7_requirePan_17 : decode cX7_requirePan 17 = .ok (.dup, 1) := by decide +kernel
theorem dX7_requirePan_18 : decode cX7_requirePan 18 = .ok (.ldc_w 478, 3) := by decide +kernel
theorem dX7_requirePan_21 : decode cX7_requirePan 21 = .ok (.invokespecial 280, 3) := by decide +kernel
theorem dX7_requirePan_24 : decode cX7_requirePan 24 = .ok (.athrow, 1) := by decide +kernel
theorem dX7_requirePan_25 : decode cX7_requirePan 25 = .ok (.return_, 1) := by decide +kernel
theorem dX7_requireWhole_0 : decode cX7_requireWhole 0 = .ok (.aload_n 0, 1) := by decide +kernel
theorem dX7_requireWhole_1 : decode cX7_requireWhole 1 = .ok (.getfield 11, 3) := by decide +kernel
theorem dX7_requireWhole_4 : decode cX7_requireWhole 4 = .ok (.iload_n 1, 1) := by decide +kernel
theorem dX7_requireWhole_5 : decode cX7_requireWhole 5 = .ok (.aaload, 1) := by decide +kernel
theorem dX7_requireWhole_6 : decode cX7_requireWhole 6 = .ok (.invokevirtual 315, 3) := by decide +kernel
theorem dX7_requireWhole_9 : decode cX7_requireWhole 9 = .ok (.ifCond .eq 14, 3) := by decide +kernel
theorem dX7_requireWhole_12 : decode cX7_requireWhole 12 = .ok (.new 83, 3) := by decide +kernel
theorem dX7_requireWhole_15 : decode cX7_requireWhole 15 = .ok (.dup, 1) := by decide +kernel
theorem dX7_requireWhole_16 : decode cX7_requireWhole 16 = .ok (.ldc_w 480, 3) := by decide +kernel
theorem dX7_requireWhole_19 : decode cX7_requireWhole 19 = .ok (.invokespecial 87, 3) := by decide +kernel
theorem dX7_requireWhole_22 : decode cX7_requireWhole 22 = .ok (.athrow, 1) := by decide +kernel
theorem dX7_requireWhole_23 : decode cX7_requireWhole 23 = .ok (.return_, 1) := by decide +kernel
theorem dX7_requirePhrase_0 : decode cX7_requirePhrase 0 = .ok (.iload_n 1, 1) := by decide +kernel
theorem dX7_requirePhrase_1 : decode cX7_requirePhrase 1 = .ok (.iconst 0, 1) := by decide +kernel
theorem dX7_requirePhrase_2 : decode cX7_requirePhrase 2 = .ok (.aload_n 0, 1) := by decide +kernel
theorem dX7_requirePhrase_3 : decode cX7_requirePhrase 3 = .ok (.getfield 133, 3) := by decide +kernel
theorem dX7_requirePhrase_6 : decode cX7_requirePhrase 6 = .ok (.iconst 1, 1) := by decide +kernel
theorem dX7_requirePhrase_7 : decode cX7_requirePhrase 7 = .ok (.isub, 1) := by decide +kernel
theorem dX7_requirePhrase_8 : decode cX7_requirePhrase 8 = .ok (.invokestatic 96, 3) := by decide +kernel
theorem dX7_requirePhrase_11 : decode cX7_requirePhrase 11 = .ok (.ifCond .ne 14, 3) := by decide +kernel
theorem dX7_requirePhrase_14 : decode cX7_requirePhrase 14 = .ok (.new 276, 3) := by decide +kernel
theorem dX7_requirePhrase_17 : decode cX7_requirePhrase 17 = .ok (.dup, 1) := by decide +kernel
theorem dX7_requirePhrase_18 : decode cX7_requirePhrase 18 = .ok (.ldc_w 482, 3) := by decide +kernel
theorem dX7_requirePhrase_21 : decode cX7_requirePhrase 21 = .ok (.invokespecial 280, 3) := by decide +kernel
theorem dX7_requirePhrase_24 : decode cX7_requirePhrase 24 = .ok (.athrow, 1) := by decide +kernel
theorem dX7_requirePhrase_25 : decode cX7_requirePhrase 25 = .ok (.return_, 1) := by decide +kernel
theorem dX7_requirePlayer_0 : decode cX7_requirePlayer 0 = .ok (.iload_n 1, 1) := by decide +kernel
theorem dX7_requirePlayer_1 : decode cX7_requirePlayer 1 = .ok (.iconst 0, 1) := by decide +kernel
theorem dX7_requirePlayer_2 : decode cX7_requirePlayer 2 = .ok (.aload_n 0, 1) := by decide +kernel
theorem dX7_requirePlayer_3 : decode cX7_requirePlayer 3 = .ok (.getfield 147, 3) := by decide +kernel
theorem dX7_requirePlayer_6 : decode cX7_requirePlayer 6 = .ok (.iconst 1, 1) := by decide +kernel
theorem dX7_requirePlayer_7 : decode cX7_requirePlayer 7 = .ok (.isub, 1) := by decide +kernel
theorem dX7_requirePlayer_8 : decode cX7_requirePlayer 8 = .ok (.invokestatic 96, 3) := by decide +kernel
theorem dX7_requirePlayer_11 : decode cX7_requirePlayer 11 = .ok (.ifCond .ne 14, 3) := by decide +kernel
theorem dX7_requirePlayer_14 : decode cX7_requirePlayer 14 = .ok (.new 276, 3) := by decide +kernel
theorem dX7_requirePlayer_17 : decode cX7_requirePlayer 17 = .ok (.dup, 1) := by decide +kernel
theorem dX7_requirePlayer_18 : decode cX7_requirePlayer 18 = .ok (.ldc_w 484, 3) := by decide +kernel
theorem dX7_requirePlayer_21 : decode cX7_requirePlayer 21 = .ok (.invokespecial 280, 3) := by decide +kernel
theorem dX7_requirePlayer_24 : decode cX7_requirePlayer 24 = .ok (.athrow, 1) := by decide +kernel
theorem dX7_requirePlayer_25 : decode cX7_requirePlayer 25 = .ok (.return_, 1) := by decide +kernel
theorem dX7_requirePlace_0 : decode cX7_requirePlace 0 = .ok (.iload_n 1, 1) := by decide +kernel
theorem dX7_requirePlace_1 : decode cX7_requirePlace 1 = .ok (.iconst 0, 1) := by decide +kernel
theorem dX7_requirePlace_2 : decode cX7_requirePlace 2 = .ok (.aload_n 0, 1) := by decide +kernel
theorem dX7_requirePlace_3 : decode cX7_requirePlace 3 = .ok (.getfield 30, 3) := by decide +kernel
theorem dX7_requirePlace_6 : decode cX7_requirePlace 6 = .ok (.getfield 160, 3) := by decide +kernel
theorem dX7_requirePlace_9 : decode cX7_requirePlace 9 = .ok (.iconst 1, 1) := by decide +kernel
theorem dX7_requirePlace_10 : decode cX7_requirePlace 10 = .ok (.isub, 1) := by decide +kernel
theorem dX7_requirePlace_11 : decode cX7_requirePlace 11 = .ok (.invokestatic 96, 3) := by decide +kernel
theorem dX7_requirePlace_14 : decode cX7_requirePlace 14 = .ok (.ifCond .ne 14, 3) := by decide +kernel
theorem dX7_requirePlace_17 : decode cX7_requirePlace 17 = .ok (.new 276, 3) := by decide +kernel
theorem dX7_requirePlace_20 : decode cX7_requirePlace 20 = .ok (.dup, 1) := by decide +kernel
theorem dX7_requirePlace_21 : decode cX7_requirePlace 21 = .ok (.ldc_w 486, 3) := by decide +kernel
theorem dX7_requirePlace_24 : decode cX7_requirePlace 24 = .ok (.invokespecial 280, 3) := by decide +kernel
theorem dX7_requirePlace_27 : decode cX7_requirePlace 27 = .ok (.athrow, 1) := by decide +kernel
theorem dX7_requirePlace_28 : decode cX7_requirePlace 28 = .ok (.return_, 1) := by decide +kernel
theorem dX7_giveLesson_0 : decode cX7_giveLesson 0 = .ok (.aload_n 0, 1) := by decide +kernel
theorem dX7_giveLesson_1 : decode cX7_giveLesson 1 = .ok (.getfield 23, 3) := by decide +kernel
theorem dX7_giveLesson_4 : decode cX7_giveLesson 4 = .ok (.iload_n 2, 1) := by decide +kernel
theorem dX7_giveLesson_5 : decode cX7_giveLesson 5 = .ok (.aaload, 1) := by decide +kernel
theorem dX7_giveLesson_6 : decode cX7_giveLesson 6 = .ok (.astore 5, 2) := by decide +kernel
theorem dX7_giveLesson_8 : decode cX7_giveLesson 8 = .ok (.aload_n 0, 1) := by decide +kernel
theorem dX7_giveLesson_9 : decode cX7_giveLesson 9 = .ok (.getfield 17, 3) := by decide +kernel
theorem dX7_giveLesson_12 : decode cX7_giveLesson 12 = .ok (.iload_n 3, 1) := by decide +kernel
theorem dX7_giveLesson_13 : decode cX7_giveLesson 13 = .ok (.aaload, 1) := by decide +kernel
theorem dX7_giveLesson_14 : decode cX7_giveLesson 14 = .ok (.astore 6, 2) := by decide +kernel
theorem dX7_giveLesson_16 : decode cX7_giveLesson 16 = .ok (.aload_n 1, 1) := by decide +kernel
theorem dX7_giveLesson_17 : decode cX7_giveLesson 17 = .ok (.iload_n 2, 1) := by decide +kernel
theorem dX7_giveLesson_18 : decode cX7_giveLesson 18 = .ok (.iload_n 3, 1) := by decide +kernel
theorem dX7_giveLesson_19 : decode cX7_giveLesson 19 = .ok (.iload 4, 2) := by decide +kernel
theorem dX7_giveLesson_21 : decode cX7_giveLesson 21 = .ok (.aload 5, 2) := by decide +kernel
theorem dX7_giveLesson_23 : decode cX7_giveLesson 23 = .ok (.getfield 335, 3) := by decide +kernel
theorem dX7_giveLesson_26 : decode cX7_giveLesson 26 = .ok (.imul, 1) := by decide +kernel
theorem dX7_giveLesson_27 : decode cX7_giveLesson 27 = .ok (.aload 6, 2) := by decide +kernel
theorem dX7_giveLesson_29 : decode cX7_giveLesson 29 = .ok (.getfield 326, 3) := by decide +kernel
theorem dX7_giveLesson_32 : decode cX7_giveLesson 32 = .ok (.idiv, 1) := by decide +kernel
theorem dX7_giveLesson_33 : decode cX7_giveLesson 33 = .ok (.aload 5, 2) := by decide +kernel
theorem dX7_giveLesson_35 : decode cX7_giveLesson 35 = .ok (.aload 6, 2) := by decide +kernel
theorem dX7_giveLesson_37 : decode cX7_giveLesson 37 = .ok (.invokevirtual 150, 3) := by decide +kernel
theorem dX7_giveLesson_40 : decode cX7_giveLesson 40 = .ok (.invokevirtual 488, 3) := by decide +kernel
theorem dX7_giveLesson_43 : decode cX7_giveLesson 43 = .ok (.return_, 1) := by decide +kernel
theorem dX7_rehearsePlaces_0 : decode cX7_rehearsePlaces 0 = .ok (.aload_n 0, 1) := by decide +kernel
theorem dX7_rehearsePlaces_1 : decode cX7_rehearsePlaces 1 = .ok (.getfield 23, 3) := by decide +kernel
theorem dX7_rehearsePlaces_4 : decode cX7_rehearsePlaces 4 = .ok (.iload_n 1, 1) := by decide +kernel
theorem dX7_rehearsePlaces_5 : decode cX7_rehearsePlaces 5 = .ok (.aaload, 1) := by decide +kernel
theorem dX7_rehearsePlaces_6 : decode cX7_rehearsePlaces 6 = .ok (.astore 4, 2) := by decide +kernel
theorem dX7_rehearsePlaces_8 : decode cX7_rehearsePlaces 8 = .ok (.iconst 0, 1) := by decide +kernel
theorem dX7_rehearsePlaces_9 : decode cX7_rehearsePlaces 9 = .ok (.istore 5, 2) := by decide +kernel
theorem dX7_rehearsePlaces_11 : decode cX7_rehearsePlaces 11 = .ok (.iload 5, 2) := by decide +kernel
theorem dX7_rehearsePlaces_13 : decode cX7_rehearsePlaces 13 = .ok (.aload_n 0, 1) := by decide +kernel
theorem dX7_rehearsePlaces_14 : decode cX7_rehearsePlaces 14 = .ok (.getfield 30, 3) := by decide +kernel
theorem dX7_rehearsePlaces_17 : decode cX7_rehearsePlaces 17 = .ok (.getfield 160, 3) := by decide +kernel
theorem dX7_rehearsePlaces_20 : decode cX7_rehearsePlaces 20 = .ok (.if_icmp .ge 94, 3) := by decide +kernel
theorem dX7_rehearsePlaces_23 : decode cX7_rehearsePlaces 23 = .ok (.aload_n 0, 1) := by decide +kernel
theorem dX7_rehearsePlaces_24 : decode cX7_rehearsePlaces 24 = .ok (.getfield 30, 3) := by decide +kernel
theorem dX7_rehearsePlaces_27 : decode cX7_rehearsePlaces 27 = .ok (.getfield 171, 3) := by decide +kernel
theorem dX7_rehearsePlaces_30 : decode cX7_rehearsePlaces 30 = .ok (.iload 5, 2) := by decide +kernel
theorem dX7_rehearsePlaces_32 : decode cX7_rehearsePlaces 32 = .ok (.iaload, 1) := by decide +kernel
theorem dX7_rehearsePlaces_33 : decode cX7_rehearsePlaces 33 = .ok (.istore 6, 2) := by decide +kernel
theorem dX7_rehearsePlaces_35 : decode cX7_rehearsePlaces 35 = .ok (.aload_n 0, 1) := by decide +kernel
theorem dX7_rehearsePlaces_36 : decode cX7_rehearsePlaces 36 = .ok (.getfield 17, 3) := by decide +kernel
theorem dX7_rehearsePlaces_39 : decode cX7_rehearsePlaces 39 = .ok (.iload 6, 2) := by decide +kernel
theorem dX7_rehearsePlaces_41 : decode cX7_rehearsePlaces 41 = .ok (.aaload, 1) := by decide +kernel
theorem dX7_rehearsePlaces_42 : decode cX7_rehearsePlaces 42 = .ok (.astore 7, 2) := by decide +kernel
theorem dX7_rehearsePlaces_44 : decode cX7_rehearsePlaces 44 = .ok (.aload 7, 2) := by decide +kernel
theorem dX7_rehearsePlaces_46 : decode cX7_rehearsePlaces 46 = .ok (.getfield 208, 3) := by decide +kernel
theorem dX7_rehearsePlaces_49 : decode cX7_rehearsePlaces 49 = .ok (.aload 4, 2) := by decide +kernel
theorem dX7_rehearsePlaces_51 : decode cX7_rehearsePlaces 51 = .ok (.getfield 190, 3) := by decide +kernel
theorem dX7_rehearsePlaces_54 : decode cX7_rehearsePlaces 54 = .ok (.if_icmp .ne 54, 3) := by decide +kernel
theorem dX7_rehearsePlaces_57 : decode cX7_rehearsePlaces 57 = .ok (.aload_n 0, 1) := by decide +kernel
theorem dX7_rehearsePlaces_58 : decode cX7_rehearsePlaces 58 = .ok (.getfield 37, 3) := by decide +kernel
theorem dX7_rehearsePlaces_61 : decode cX7_rehearsePlaces 61 = .ok (.getfield 225, 3) := by decide +kernel
theorem dX7_rehearsePlaces_64 : decode cX7_rehearsePlaces 64 = .ok (.iload_n 1, 1) := by decide +kernel
theorem dX7_rehearsePlaces_65 : decode cX7_rehearsePlaces 65 = .ok (.aaload, 1) := by decide +kernel
theorem dX7_rehearsePlaces_66 : decode cX7_rehearsePlaces 66 = .ok (.iload 6, 2) := by decide +kernel
theorem dX7_rehearsePlaces_68 : decode cX7_rehearsePlaces 68 = .ok (.iaload, 1) := by decide +kernel
theorem dX7_rehearsePlaces_69 : decode cX7_rehearsePlaces 69 = .ok (.bipush 30, 2) := by decide +kernel
theorem dX7_rehearsePlaces_71 : decode cX7_rehearsePlaces 71 = .ok (.if_icmp .lt 37, 3) := by decide +kernel
theorem dX7_rehearsePlaces_74 : decode cX7_rehearsePlaces 74 = .ok (.aload_n 0, 1) := by decide +kernel
theorem dX7_rehearsePlaces_75 : decode cX7_rehearsePlaces 75 = .ok (.getfield 37, 3) := by decide +kernel
theorem dX7_rehearsePlaces_78 : decode cX7_rehearsePlaces 78 = .ok (.iload_n 1, 1) := by decide +kernel
theorem dX7_rehearsePlaces_79 : decode cX7_rehearsePlaces 79 = .ok (.iload 6, 2) := by decide +kernel
theorem dX7_rehearsePlaces_81 : decode cX7_rehearsePlaces 81 = .ok (.iload_n 3, 1) := by decide +kernel
theorem dX7_rehearsePlaces_82 : decode cX7_rehearsePlaces 82 = .ok (.aload 4, 2) := by decide +kernel
theorem dX7_rehearsePlaces_84 : decode cX7_rehearsePlaces 84 = .ok (.aload 7, 2) := by decide +kernel
theorem dX7_rehearsePlaces_86 : decode cX7_rehearsePlaces 86 = .ok (.invokevirtual 150, 3) := by decide +kernel
theorem dX7_rehearsePlaces_89 : decode cX7_rehearsePlaces 89 = .ok (.invokevirtual 488, 3) := by decide +kernel
theorem dX7_rehearsePlaces_92 : decode cX7_rehearsePlaces 92 = .ok (.aload_n 2, 1) := by decide +kernel
theorem dX7_rehearsePlaces_93 : decode cX7_rehearsePlaces 93 = .ok (.aload 7, 2) := by decide +kernel
theorem dX7_rehearsePlaces_95 : decode cX7_rehearsePlaces 95 = .ok (.getfield 329, 3) := by decide +kernel
theorem dX7_rehearsePlaces_98 : decode cX7_rehearsePlaces 98 = .ok (.aload_n 0, 1) := by decide +kernel
theorem dX7_rehearsePlaces_99 : decode cX7_rehearsePlaces 99 = .ok (.getfield 44, 3) := by decide +kernel
theorem dX7_rehearsePlaces_102 : decode cX7_rehearsePlaces 102 = .ok (.getfield 261, 3) := by decide +kernel
theorem dX7_rehearsePlaces_105 : decode cX7_rehearsePlaces 105 = .ok (.invokevirtual 492, 3) := by decide +kernel
theorem dX7_rehearsePlaces_108 : decode cX7_rehearsePlaces 108 = .ok (.iinc 5 1, 3) := by decide +kernel
theorem dX7_rehearsePlaces_111 : decode cX7_rehearsePlaces 111 = .ok (.goto (-100), 3) := by decide +kernel
theorem dX7_rehearsePlaces_114 : decode cX7_rehearsePlaces 114 = .ok (.return_, 1) := by decide +kernel
theorem dX7_weather_0 : decode cX7_weather 0 = .ok (.iconst 0, 1) := by decide +kernel
theorem dX7_weather_1 : decode cX7_weather 1 = .ok (.istore_n 3, 1) := by decide +kernel
theorem dX7_weather_2 : decode cX7_weather 2 = .ok (.iload_n 3, 1) := by decide +kernel
theorem dX7_weather_3 : decode cX7_weather 3 = .ok (.aload_n 0, 1) := by decide +kernel
theorem dX7_weather_4 : decode cX7_weather 4 = .ok (.getfield 80, 3) := by decide +kernel
theorem dX7_weather_7 : decode cX7_weather 7 = .ok (.if_icmp .ge 52, 3) := by decide +kernel
theorem dX7_weather_10 : decode cX7_weather 10 = .ok (.iload_n 1, 1) := by decide +kernel
theorem dX7_weather_11 : decode cX7_weather 11 = .ok (.bipush 7, 2) := by decide +kernel
theorem dX7_weather_13 : decode cX7_weather 13 = .ok (.if_icmp .lt 12, 3) := by decide +kernel
theorem dX7_weather_16 : decode cX7_weather 16 = .ok (.aload_n 0, 1) := by decide +kernel
theorem dX7_weather_17 : decode cX7_weather 17 = .ok (.getfield 11, 3) := by decide +kernel
theorem dX7_weather_20 : decode cX7_weather 20 = .ok (.iload_n 3, 1) := by decide +kernel
theorem dX7_weather_21 : decode cX7_weather 21 = .ok (.aaload, 1) := by decide +kernel
theorem dX7_weather_22 : decode cX7_weather 22 = .ok (.invokevirtual 495, 3) := by decide +kernel
theorem dX7_weather_25 : decode cX7_weather 25 = .ok (.iload_n 2, 1) := by decide +kernel
theorem dX7_weather_26 : decode cX7_weather 26 = .ok (.iconst 5, 1) := by decide +kernel
theorem dX7_weather_27 : decode cX7_weather 27 = .ok (.if_icmp .lt 26, 3) := by decide +kernel
theorem dX7_weather_30 : decode cX7_weather 30 = .ok (.aload_n 0, 1) := by decide +kernel
theorem dX7_weather_31 : decode cX7_weather 31 = .ok (.getfield 126, 3) := by decide +kernel
theorem dX7_weather_34 : decode cX7_weather 34 = .ok (.ifCond .ne 19, 3) := by decide +kernel
theorem dX7_weather_37 : decode cX7_weather 37 = .ok (.aload_n 0, 1) := by decide +kernel
theorem dX7_weather_38 : decode cX7_weather 38 = .ok (.getfield 11, 3) := by decide +kernel
theorem dX7_weather_41 : decode cX7_weather 41 = .ok (.iload_n 3, 1) := by decide +kernel
theorem dX7_weather_42 : decode cX7_weather 42 = .ok (.aaload, 1) := by decide +kernel
theorem dX7_weather_43 : decode cX7_weather 43 = .ok (.dup, 1) := by decide +kernel
theorem dX7_weather_44 : decode cX7_weather 44 = .ok (.getfield 117, 3) := by decide +kernel
theorem dX7_weather_47 : decode cX7_weather 47 = .ok (.bipush 10, 2) := by decide +kernel
theorem dX7_weather_49 : decode cX7_weather 49 = .ok (.iadd, 1) := by decide +kernel
theorem dX7_weather_50 : decode cX7_weather 50 = .ok (.putfield 117, 3) := by decide +kernel
theorem dX7_weather_53 : decode cX7_weather 53 = .ok (.iinc 3 1, 3) := by decide +kernel
theorem dX7_weather_56 : decode cX7_weather 56 = .ok (.goto (-54), 3) := by decide +kernel
theorem dX7_weather_59 : decode cX7_weather 59 = .ok (.return_, 1) := by decide +kernel
theorem dX7_soundingCount_0 : decode cX7_soundingCount 0 = .ok (.iconst 0, 1) := by decide +kernel
theorem dX7_soundingCount_1 : decode cX7_soundingCount 1 = .ok (.istore_n 1, 1) := by decide +kernel
theorem dX7_soundingCount_2 : decode cX7_soundingCount 2 = .ok (.iconst 0, 1) := by decide +kernel
theorem dX7_soundingCount_3 : decode cX7_soundingCount 3 = .ok (.istore_n 2, 1) := by decide +kernel
theorem dX7_soundingCount_4 : decode cX7_soundingCount 4 = .ok (.iload_n 2, 1) := by decide +kernel
theorem dX7_soundingCount_5 : decode cX7_soundingCount 5 = .ok (.aload_n 0, 1) := by decide +kernel
theorem dX7_soundingCount_6 : decode cX7_soundingCount 6 = .ok (.getfield 147, 3) := by decide +kernel
theorem dX7_soundingCount_9 : decode cX7_soundingCount 9 = .ok (.if_icmp .ge 24, 3) := by decide +kernel
theorem dX7_soundingCount_12 : decode cX7_soundingCount 12 = .ok (.aload_n 0, 1) := by decide +kernel
theorem dX7_soundingCount_13 : decode cX7_soundingCount 13 = .ok (.getfield 23, 3) := by decide +kernel
theorem dX7_soundingCount_16 : decode cX7_soundingCount 16 = .ok (.iload_n 2, 1) := by decide +kernel
theorem dX7_soundingCount_17 : decode cX7_soundingCount 17 = .ok (.aaload, 1) := by decide +kernel
theorem dX7_soundingCount_18 : decode cX7_soundingCount 18 = .ok (.invokevirtual 236, 3) := by decide +kernel
theorem dX7_soundingCount_21 : decode cX7_soundingCount 21 = .ok (.ifnull 6, 3) := by decide +kernel
theorem dX7_soundingCount_24 : decode cX7_soundingCount 24 = .ok (.iinc 1 1, 3) := by decide +kernel
theorem dX7_soundingCount_27 : decode cX7_soundingCount 27 = .ok (.iinc 2 1, 3) := by decide +kernel
theorem dX7_soundingCount_30 : decode cX7_soundingCount 30 = .ok (.goto (-26), 3) := by decide +kernel
theorem dX7_soundingCount_33 : decode cX7_soundingCount 33 = .ok (.iload_n 1, 1) := by decide +kernel
theorem dX7_soundingCount_34 : decode cX7_soundingCount 34 = .ok (.ireturn, 1) := by decide +kernel
theorem dX7_blowsEver_0 : decode cX7_blowsEver 0 = .ok (.iconst 0, 1) := by decide +kernel
theorem dX7_blowsEver_1 : decode cX7_blowsEver 1 = .ok (.istore_n 1, 1) := by decide +kernel
theorem dX7_blowsEver_2 : decode cX7_blowsEver 2 = .ok (.iconst 0, 1) := by decide +kernel
theorem dX7_blowsEver_3 : decode cX7_blowsEver 3 = .ok (.istore_n 2, 1) := by decide +kernel
theorem dX7_blowsEver_4 : decode cX7_blowsEver 4 = .ok (.iload_n 2, 1) := by decide +kernel
theorem dX7_blowsEver_5 : decode cX7_blowsEver 5 = .ok (.aload_n 0, 1) := by decide +kernel
theorem dX7_blowsEver_6 : decode cX7_blowsEver 6 = .ok (.getfield 80, 3) := by decide +kernel
theorem dX7_blowsEver_9 : decode cX7_blowsEver 9 = .ok (.if_icmp .ge 21, 3) := by decide +kernel
theorem dX7_blowsEver_12 : decode cX7_blowsEver 12 = .ok (.iload_n 1, 1) := by decide +kernel
theorem dX7_blowsEver_13 : decode cX7_blowsEver 13 = .ok (.aload_n 0, 1) := by decide +kernel
theorem dX7_blowsEver_14 : decode cX7_blowsEver 14 = .ok (.getfield 11, 3) := by decide +kernel
theorem dX7_blowsEver_17 : decode cX7_blowsEver 17 = .ok (.iload_n 2, 1) := by decide +kernel
theorem dX7_blowsEver_18 : decode cX7_blowsEver 18 = .ok (.aaload, 1) := by decide +kernel
theorem dX7_blowsEver_19 : decode cX7_blowsEver 19 = .ok (.getfield 321, 3) := by decide +kernel
theorem dX7_blowsEver_22 : decode cX7_blowsEver 22 = .ok (.iadd, 1) := by decide +kernel
theorem dX7_blowsEver_23 : decode cX7_blowsEver 23 = .ok (.istore_n 1, 1) := by decide +kernel
theorem dX7_blowsEver_24 : decode cX7_blowsEver 24 = .ok (.iinc 2 1, 3) := by decide +kernel
theorem dX7_blowsEver_27 : decode cX7_blowsEver 27 = .ok (.goto (-23), 3) := by decide +kernel
theorem dX7_blowsEver_30 : decode cX7_blowsEver 30 = .ok (.iload_n 1, 1) := by decide +kernel
theorem dX7_blowsEver_31 : decode cX7_blowsEver 31 = .ok (.ireturn, 1) := by decide +kernel
theorem dX7_weigh_0 : decode cX7_weigh 0 = .ok (.iconst 0, 1) := by decide +kernel
theorem dX7_weigh_1 : decode cX7_weigh 1 = .ok (.istore_n 2, 1) := by decide +kernel
theorem dX7_weigh_2 : decode cX7_weigh 2 = .ok (.iload_n 2, 1) := by decide +kernel
theorem dX7_weigh_3 : decode cX7_weigh 3 = .ok (.aload_n 0, 1) := by decide +kernel
theorem dX7_weigh_4 : decode cX7_weigh 4 = .ok (.getfield 133, 3) := by decide +kernel
theorem dX7_weigh_7 : decode cX7_weigh 7 = .ok (.if_icmp .ge 21, 3) := by decide +kernel
theorem dX7_weigh_10 : decode cX7_weigh 10 = .ok (.aload_n 0, 1) := by decide +kernel
theorem dX7_weigh_11 : decode cX7_weigh 11 = .ok (.getfield 72, 3) := by decide +kernel
theorem dX7_weigh_14 : decode cX7_weigh 14 = .ok (.iload_n 2, 1) := by decide +kernel
theorem dX7_weigh_15 : decode cX7_weigh 15 = .ok (.aload_n 0, 1) := by decide +kernel
theorem dX7_weigh_16 : decode cX7_weigh 16 = .ok (.iload_n 2, 1) := by decide +kernel
theorem dX7_weigh_17 : decode cX7_weigh 17 = .ok (.aload_n 1, 1) := by decide +kernel
theorem dX7_weigh_18 : decode cX7_weigh 18 = .ok (.invokevirtual 498, 3) := by decide +kernel
theorem dX7_weigh_21 : decode cX7_weigh 21 = .ok (.iastore, 1) := by decide +kernel
theorem dX7_weigh_22 : decode cX7_weigh 22 = .ok (.iinc 2 1, 3) := by decide +kernel
theorem dX7_weigh_25 : decode cX7_weigh 25 = .ok (.goto (-23), 3) := by decide +kernel
theorem dX7_weigh_28 : decode cX7_weigh 28 = .ok (.return_, 1) := by decide +kernel
theorem dX7_levelOf_0 : decode cX7_levelOf 0 = .ok (.aload_n 0, 1) := by decide +kernel
theorem dX7_levelOf_1 : decode cX7_levelOf 1 = .ok (.getfield 17, 3) := by decide +kernel
theorem dX7_levelOf_4 : decode cX7_levelOf 4 = .ok (.iload_n 1, 1) := by decide +kernel
theorem dX7_levelOf_5 : decode cX7_levelOf 5 = .ok (.aaload, 1) := by decide +kernel
theorem dX7_levelOf_6 : decode cX7_levelOf 6 = .ok (.astore_n 3, 1) := by decide +kernel
theorem dX7_levelOf_7 : decode cX7_levelOf 7 = .ok (.iconst 0, 1) := by decide +kernel
theorem dX7_levelOf_8 : decode cX7_levelOf 8 = .ok (.istore 4, 2) := by decide +kernel
theorem dX7_levelOf_10 : decode cX7_levelOf 10 = .ok (.iconst 0, 1) := by decide +kernel
theorem dX7_levelOf_11 : decode cX7_levelOf 11 = .ok (.istore 5, 2) := by decide +kernel
theorem dX7_levelOf_13 : decode cX7_levelOf 13 = .ok (.iconst 0, 1) := by decide +kernel
theorem dX7_levelOf_14 : decode cX7_levelOf 14 = .ok (.istore 6, 2) := by decide +kernel
theorem dX7_levelOf_16 : decode cX7_levelOf 16 = .ok (.iload 6, 2) := by decide +kernel
theorem dX7_levelOf_18 : decode cX7_levelOf 18 = .ok (.aload_n 0, 1) := by decide +kernel
theorem dX7_levelOf_19 : decode cX7_levelOf 19 = .ok (.getfield 147, 3) := by decide +kernel
theorem dX7_levelOf_22 : decode cX7_levelOf 22 = .ok (.if_icmp .ge 83, 3) := by decide +kernel
theorem dX7_levelOf_25 : decode cX7_levelOf 25 = .ok (.aload_n 0, 1) := by decide +kernel
theorem dX7_levelOf_26 : decode cX7_levelOf 26 = .ok (.getfield 23, 3) := by decide +kernel
theorem dX7_levelOf_29 : decode cX7_levelOf 29 = .ok (.iload 6, 2) := by decide +kernel
theorem dX7_levelOf_31 : decode cX7_levelOf 31 = .ok (.aaload, 1) := by decide +kernel
theorem dX7_levelOf_32 : decode cX7_levelOf 32 = .ok (.invokevirtual 236, 3) := by decide +kernel
theorem dX7_levelOf_35 : decode cX7_levelOf 35 = .ok (.astore 7, 2) := by decide +kernel
theorem dX7_levelOf_37 : decode cX7_levelOf 37 = .ok (.aload 7, 2) := by decide +kernel
theorem dX7_levelOf_39 : decode cX7_levelOf 39 = .ok (.ifnull 60, 3) := by decide +kernel
theorem dX7_levelOf_42 : decode cX7_levelOf 42 = .ok (.aload_n 0, 1) := by decide +kernel
theorem dX7_levelOf_43 : decode cX7_levelOf 43 = .ok (.getfield 23, 3) := by decide +kernel
theorem dX7_levelOf_46 : decode cX7_levelOf 46 = .ok (.iload 6, 2) := by decide +kernel
theorem dX7_levelOf_48 : decode cX7_levelOf 48 = .ok (.aaload, 1) := by decide +kernel
theorem dX7_levelOf_49 : decode cX7_levelOf 49 = .ok (.getfield 190, 3) := by decide +kernel
theorem dX7_levelOf_52 : decode cX7_levelOf 52 = .ok (.aload_n 3, 1) := by decide +kernel
theorem dX7_levelOf_53 : decode cX7_levelOf 53 = .ok (.getfield 208, 3) := by decide +kernel
theorem dX7_levelOf_56 : decode cX7_levelOf 56 = .ok (.if_icmp .ne 43, 3) := by decide +kernel
theorem dX7_levelOf_59 : decode cX7_levelOf 59 = .ok (.aload 7, 2) := by decide +kernel
theorem dX7_levelOf_61 : decode cX7_levelOf 61 = .ok (.invokevirtual 502, 3) := by decide +kernel
theorem dX7_levelOf_64 : decode cX7_levelOf 64 = .ok (.aload_n 3, 1) := by decide +kernel
theorem dX7_levelOf_65 : decode cX7_levelOf 65 = .ok (.getfield 329, 3) := by decide +kernel
theorem dX7_levelOf_68 : decode cX7_levelOf 68 = .ok (.iand, 1) := by decide +kernel
theorem dX7_levelOf_69 : decode cX7_levelOf 69 = .ok (.invokestatic 505, 3) := by decide +kernel
theorem dX7_levelOf_72 : decode cX7_levelOf 72 = .ok (.istore 8, 2) := by decide +kernel
theorem dX7_levelOf_74 : decode cX7_levelOf 74 = .ok (.iload 4, 2) := by decide +kernel
theorem dX7_levelOf_76 : decode cX7_levelOf 76 = .ok (.aload_n 2, 1) := by decide +kernel
theorem dX7_levelOf_77 : decode cX7_levelOf 77 = .ok (.getfield 225, 3) := by decide +kernel
theorem dX7_levelOf_80 : decode cX7_levelOf 80 = .ok (.iload 6, 2) := by decide +kernel
theorem dX7_levelOf_82 : decode cX7_levelOf 82 = .ok (.aaload, 1) := by decide +kernel
theorem dX7_levelOf_83 : decode cX7_levelOf 83 = .ok (.iload_n 1, 1) := by decide +kernel
theorem dX7_levelOf_84 : decode cX7_levelOf 84 = .ok (.iaload, 1) := by decide +kernel
theorem dX7_levelOf_85 : decode cX7_levelOf 85 = .ok (.iload 8, 2) := by decide +kernel
theorem dX7_levelOf_87 : decode cX7_levelOf 87 = .ok (.imul, 1) := by decide +kernel
theorem dX7_levelOf_88 : decode cX7_levelOf 88 = .ok (.aload_n 3, 1) := by decide +kernel
theorem dX7_levelOf_89 : decode cX7_levelOf 89 = .ok (.invokevirtual 510, 3) := by decide +kernel
theorem dX7_levelOf_92 : decode cX7_levelOf 92 = .ok (.idiv, 1) := by decide +kernel
theorem dX7_levelOf_93 : decode cX7_levelOf 93 = .ok (.iadd, 1) := by decide +kernel
theorem dX7_levelOf_94 : decode cX7_levelOf 94 = .ok (.istore 4, 2) := by decide +kernel
theorem dX7_levelOf_96 : decode cX7_levelOf 96 = .ok (.iinc 5 1, 3) := by decide +kernel
theorem dX7_levelOf_99 : decode cX7_levelOf 99 = .ok (.iinc 6 1, 3) := by decide +kernel
theorem dX7_levelOf_102 : decode cX7_levelOf 102 = .ok (.goto (-86), 3) := by decide +kernel
theorem dX7_levelOf_105 : decode cX7_levelOf 105 = .ok (.iload 5, 2) := by decide +kernel
theorem dX7_levelOf_107 : decode cX7_levelOf 107 = .ok (.ifCond .ne 7, 3) := by decide +kernel
theorem dX7_levelOf_110 : decode cX7_levelOf 110 = .ok (.iconst 0, 1) := by decide +kernel
theorem dX7_levelOf_111 : decode cX7_levelOf 111 = .ok (.goto 8, 3) := by decide +kernel
theorem dX7_levelOf_114 : decode cX7_levelOf 114 = .ok (.iload 4, 2) := by decide +kernel
theorem dX7_levelOf_116 : decode cX7_levelOf 116 = .ok (.iload 5, 2) := by decide +kernel
theorem dX7_levelOf_118 : decode cX7_levelOf 118 = .ok (.idiv, 1) := by decide +kernel
theorem dX7_levelOf_119 : decode cX7_levelOf 119 = .ok (.ireturn, 1) := by decide +kernel
theorem dX7_soundAt_0 : decode cX7_soundAt 0 = .ok (.aload_n 1, 1) := by decide +kernel
theorem dX7_soundAt_1 : decode cX7_soundAt 1 = .ok (.getfield 171, 3) := by decide +kernel
theorem dX7_soundAt_4 : decode cX7_soundAt 4 = .ok (.iload_n 2, 1) := by decide +kernel
theorem dX7_soundAt_5 : decode cX7_soundAt 5 = .ok (.iaload, 1) := by decide +kernel
theorem dX7_soundAt_6 : decode cX7_soundAt 6 = .ok (.istore_n 3, 1) := by decide +kernel
theorem dX7_soundAt_7 : decode cX7_soundAt 7 = .ok (.iconst 0, 1) := by decide +kernel
theorem dX7_soundAt_8 : decode cX7_soundAt 8 = .ok (.aload_n 0, 1) := by decide +kernel
theorem dX7_soundAt_9 : decode cX7_soundAt 9 = .ok (.getfield 72, 3) := by decide +kernel
theorem dX7_soundAt_12 : decode cX7_soundAt 12 = .ok (.iload_n 3, 1) := by decide +kernel
theorem dX7_soundAt_13 : decode cX7_soundAt 13 = .ok (.iaload, 1) := by decide +kernel
theorem dX7_soundAt_14 : decode cX7_soundAt 14 = .ok (.iload_n 2, 1) := by decide +kernel
theorem dX7_soundAt_15 : decode cX7_soundAt 15 = .ok (.aload_n 0, 1) := by decide +kernel
theorem dX7_soundAt_16 : decode cX7_soundAt 16 = .ok (.getfield 17, 3) := by decide +kernel
theorem dX7_soundAt_19 : decode cX7_soundAt 19 = .ok (.iload_n 3, 1) := by decide +kernel
theorem dX7_soundAt_20 : decode cX7_soundAt 20 = .ok (.aaload, 1) := by decide +kernel
theorem dX7_soundAt_21 : decode cX7_soundAt 21 = .ok (.getfield 326, 3) := by decide +kernel
theorem dX7_soundAt_24 : decode cX7_soundAt 24 = .ok (.imul, 1) := by decide +kernel
theorem dX7_soundAt_25 : decode cX7_soundAt 25 = .ok (.iconst 4, 1) := by decide +kernel
theorem dX7_soundAt_26 : decode cX7_soundAt 26 = .ok (.idiv, 1) := by decide +kernel
theorem dX7_soundAt_27 : decode cX7_soundAt 27 = .ok (.isub, 1) := by decide +kernel
theorem dX7_soundAt_28 : decode cX7_soundAt 28 = .ok (.invokestatic 397, 3) := by decide +kernel
theorem dX7_soundAt_31 : decode cX7_soundAt 31 = .ok (.ireturn, 1) := by decide +kernel
theorem dX7_meanSound_0 : decode cX7_meanSound 0 = .ok (.iconst 0, 1) := by decide +kernel
theorem dX7_meanSound_1 : decode cX7_meanSound 1 = .ok (.istore_n 2, 1) := by decide +kernel
theorem dX7_meanSound_2 : decode cX7_meanSound 2 = .ok (.iconst 0, 1) := by decide +kernel
theorem dX7_meanSound_3 : decode cX7_meanSound 3 = .ok (.istore_n 3, 1) := by decide +kernel
theorem dX7_meanSound_4 : decode cX7_meanSound 4 = .ok (.iload_n 3, 1) := by decide +kernel
theorem dX7_meanSound_5 : decode cX7_meanSound 5 = .ok (.aload_n 1, 1) := by decide +kernel
theorem dX7_meanSound_6 : decode cX7_meanSound 6 = .ok (.getfield 160, 3) := by decide +kernel
theorem dX7_meanSound_9 : decode cX7_meanSound 9 = .ok (.if_icmp .ge 18, 3) := by decide +kernel
theorem dX7_meanSound_12 : decode cX7_meanSound 12 = .ok (.iload_n 2, 1) := by decide +kernel
theorem dX7_meanSound_13 : decode cX7_meanSound 13 = .ok (.aload_n 0, 1) := by decide +kernel
theorem dX7_meanSound_14 : decode cX7_meanSound 14 = .ok (.aload_n 1, 1) := by decide +kernel
theorem dX7_meanSound_15 : decode cX7_meanSound 15 = .ok (.iload_n 3, 1) := by decide +kernel
theorem dX7_meanSound_16 : decode cX7_meanSound 16 = .ok (.invokevirtual 349, 3) := by decide +kernel
theorem dX7_meanSound_19 : decode cX7_meanSound 19 = .ok (.iadd, 1) := by decide +kernel
theorem dX7_meanSound_20 : decode cX7_meanSound 20 = .ok (.istore_n 2, 1) := by decide +kernel
theorem dX7_meanSound_21 : decode cX7_meanSound 21 = .ok (.iinc 3 1, 3) := by decide +kernel
theorem dX7_meanSound_24 : decode cX7_meanSound 24 = .ok (.goto (-20), 3) := by decide +kernel
theorem dX7_meanSound_27 : decode cX7_meanSound 27 = .ok (.aload_n 1, 1) := by decide +kernel
theorem dX7_meanSound_28 : decode cX7_meanSound 28 = .ok (.getfield 160, 3) := by decide +kernel
theorem dX7_meanSound_31 : decode cX7_meanSound 31 = .ok (.ifCond .ne 7, 3) := by decide +kernel
theorem dX7_meanSound_34 : decode cX7_meanSound 34 = .ok (.iconst 0, 1) := by decide +kernel
theorem dX7_meanSound_35 : decode cX7_meanSound 35 = .ok (.goto 9, 3) := by decide +kernel
theorem dX7_meanSound_38 : decode cX7_meanSound 38 = .ok (.iload_n 2, 1) := by decide +kernel
theorem dX7_meanSound_39 : decode cX7_meanSound 39 = .ok (.aload_n 1, 1) := by decide +kernel
theorem dX7_meanSound_40 : decode cX7_meanSound 40 = .ok (.getfield 160, 3) := by decide +kernel
theorem dX7_meanSound_43 : decode cX7_meanSound 43 = .ok (.idiv, 1) := by decide +kernel
theorem dX7_meanSound_44 : decode cX7_meanSound 44 = .ok (.ireturn, 1) := by decide +kernel
theorem dX7_leastSound_0 : decode cX7_leastSound 0 = .ok (.bipush 100, 2) := by decide +kernel
theorem dX7_leastSound_2 : decode cX7_leastSound 2 = .ok (.istore_n 2, 1) := by decide +kernel
theorem dX7_leastSound_3 : decode cX7_leastSound 3 = .ok (.iconst 0, 1) := by decide +kernel
theorem dX7_leastSound_4 : decode cX7_leastSound 4 = .ok (.istore_n 3, 1) := by decide +kernel
theorem dX7_leastSound_5 : decode cX7_leastSound 5 = .ok (.iload_n 3, 1) := by decide +kernel
theorem dX7_leastSound_6 : decode cX7_leastSound 6 = .ok (.aload_n 1, 1) := by decide +kernel
theorem dX7_leastSound_7 : decode cX7_leastSound 7 = .ok (.getfield 160, 3) := by decide +kernel
theorem dX7_leastSound_10 : decode cX7_leastSound 10 = .ok (.if_icmp .ge 20, 3) := by decide +kernel
theorem dX7_leastSound_13 : decode cX7_leastSound 13 = .ok (.iload_n 2, 1) := by decide +kernel
theorem dX7_leastSound_14 : decode cX7_leastSound 14 = .ok (.aload_n 0, 1) := by decide +kernel
theorem dX7_leastSound_15 : decode cX7_leastSound 15 = .ok (.aload_n 1, 1) := by decide +kernel
theorem dX7_leastSound_16 : decode cX7_leastSound 16 = .ok (.iload_n 3, 1) := by decide +kernel
theorem dX7_leastSound_17 : decode cX7_leastSound 17 = .ok (.invokevirtual 349, 3) := by decide +kernel
theorem dX7_leastSound_20 : decode cX7_leastSound 20 = .ok (.invokestatic 513, 3) := by decide +kernel
theorem dX7_leastSound_23 : decode cX7_leastSound 23 = .ok (.istore_n 2, 1) := by decide +kernel
theorem dX7_leastSound_24 : decode cX7_leastSound 24 = .ok (.iinc 3 1, 3) := by decide +kernel
theorem dX7_leastSound_27 : decode cX7_leastSound 27 = .ok (.goto (-22), 3) := by decide +kernel
theorem dX7_leastSound_30 : decode cX7_leastSound 30 = .ok (.aload_n 1, 1) := by decide +kernel
theorem dX7_leastSound_31 : decode cX7_leastSound 31 = .ok (.getfield 160, 3) := by decide +kernel
theorem dX7_leastSound_34 : decode cX7_leastSound 34 = .ok (.ifCond .ne 7, 3) := by decide +kernel
theorem dX7_leastSound_37 : decode cX7_leastSound 37 = .ok (.iconst 0, 1) := by decide +kernel
theorem dX7_leastSound_38 : decode cX7_leastSound 38 = .ok (.goto 4, 3) := by decide +kernel
theorem dX7_leastSound_41 : decode cX7_leastSound 41 = .ok (.iload_n 2, 1) := by decide +kernel
theorem dX7_leastSound_42 : decode cX7_leastSound 42 = .ok (.ireturn, 1) := by decide +kernel
theorem dX7_tone_0 : decode cX7_tone 0 = .ok (.iconst 0, 1) := by decide +kernel
theorem dX7_tone_1 : decode cX7_tone 1 = .ok (.istore_n 1, 1) := by decide +kernel
theorem dX7_tone_2 : decode cX7_tone 2 = .ok (.iconst 0, 1) := by decide +kernel
theorem dX7_tone_3 : decode cX7_tone 3 = .ok (.istore_n 2, 1) := by decide +kernel
theorem dX7_tone_4 : decode cX7_tone 4 = .ok (.iconst 0, 1) := by decide +kernel
theorem dX7_tone_5 : decode cX7_tone 5 = .ok (.istore_n 3, 1) := by decide +kernel
theorem dX7_tone_6 : decode cX7_tone 6 = .ok (.iload_n 3, 1) := by decide +kernel
theorem dX7_tone_7 : decode cX7_tone 7 = .ok (.aload_n 0, 1) := by decide +kernel
theorem dX7_tone_8 : decode cX7_tone 8 = .ok (.getfield 147, 3) := by decide +kernel
theorem dX7_tone_11 : decode cX7_tone 11 = .ok (.if_icmp .ge 36, 3) := by decide +kernel
theorem dX7_tone_14 : decode cX7_tone 14 = .ok (.aload_n 0, 1) := by decide +kernel
theorem dX7_tone_15 : decode cX7_tone 15 = .ok (.getfield 23, 3) := by decide +kernel
theorem dX7_tone_18 : decode cX7_tone 18 = .ok (.iload_n 3, 1) := by decide +kernel
theorem dX7_tone_19 : decode cX7_tone 19 = .ok (.aaload, 1) := by decide +kernel
theorem dX7_tone_20 : decode cX7_tone 20 = .ok (.invokevirtual 236, 3) := by decide +kernel
theorem dX7_tone_23 : decode cX7_tone 23 = .ok (.astore 4, 2) := by decide +kernel
theorem dX7_tone_25 : decode cX7_tone 25 = .ok (.aload 4, 2) := by decide +kernel
theorem dX7_tone_27 : decode cX7_tone 27 = .ok (.ifnull 14, 3) := by decide +kernel
theorem dX7_tone_30 : decode cX7_tone 30 = .ok (.iload_n 1, 1) := by decide +kernel
theorem dX7_tone_31 : decode cX7_tone 31 = .ok (.aload 4, 2) := by decide +kernel
theorem dX7_tone_33 : decode cX7_tone 33 = .ok (.invokevirtual 318, 3) := by decide +kernel
theorem dX7_tone_36 : decode cX7_tone 36 = .ok (.iadd, 1) := by decide +kernel
theorem dX7_tone_37 : decode cX7_tone 37 = .ok (.istore_n 1, 1) := by decide +kernel
theorem dX7_tone_38 : decode cX7_tone 38 = .ok (.iinc 2 1, 3) := by decide +kernel
theorem dX7_tone_41 : decode cX7_tone 41 = .ok (.iinc 3 1, 3) := by decide +kernel
theorem dX7_tone_44 : decode cX7_tone 44 = .ok (.goto (-38), 3) := by decide +kernel
theorem dX7_tone_47 : decode cX7_tone 47 = .ok (.iload_n 2, 1) := by decide +kernel
theorem dX7_tone_48 : decode cX7_tone 48 = .ok (.ifCond .ne 7, 3) := by decide +kernel
theorem dX7_tone_51 : decode cX7_tone 51 = .ok (.iconst 0, 1) := by decide +kernel
theorem dX7_tone_52 : decode cX7_tone 52 = .ok (.goto 9, 3) := by decide +kernel
theorem dX7_tone_55 : decode cX7_tone 55 = .ok (.bipush 12, 2) := by decide +kernel
theorem dX7_tone_57 : decode cX7_tone 57 = .ok (.iload_n 1, 1) := by decide +kernel
theorem dX7_tone_58 : decode cX7_tone 58 = .ok (.imul, 1) := by decide +kernel
theorem dX7_tone_59 : decode cX7_tone 59 = .ok (.iload_n 2, 1) := by decide +kernel
theorem dX7_tone_60 : decode cX7_tone 60 = .ok (.idiv, 1) := by decide +kernel
theorem dX7_tone_61 : decode cX7_tone 61 = .ok (.ireturn, 1) := by decide +kernel
theorem dX7_variety_0 : decode cX7_variety 0 = .ok (.iconst 0, 1) := by decide +kernel
theorem dX7_variety_1 : decode cX7_variety 1 = .ok (.istore_n 2, 1) := by decide +kernel
theorem dX7_variety_2 : decode cX7_variety 2 = .ok (.iconst 0, 1) := by decide +kernel
theorem dX7_variety_3 : decode cX7_variety 3 = .ok (.istore_n 3, 1) := by decide +kernel
theorem dX7_variety_4 : decode cX7_variety 4 = .ok (.iload_n 3, 1) := by decide +kernel
theorem dX7_variety_5 : decode cX7_variety 5 = .ok (.aload_n 0, 1) := by decide +kernel
theorem dX7_variety_6 : decode cX7_variety 6 = .ok (.getfield 133, 3) := by decide +kernel
theorem dX7_variety_9 : decode cX7_variety 9 = .ok (.if_icmp .ge 31, 3) := by decide +kernel
theorem dX7_variety_12 : decode cX7_variety 12 = .ok (.aload_n 1, 1) := by decide +kernel
theorem dX7_variety_13 : decode cX7_variety 13 = .ok (.iload_n 3, 1) := by decide +kernel
theorem dX7_variety_14 : decode cX7_variety 14 = .ok (.invokevirtual 332, 3) := by decide +kernel
theorem dX7_variety_17 : decode cX7_variety 17 = .ok (.ifCond .le 17, 3) := by decide +kernel
theorem dX7_variety_20 : decode cX7_variety 20 = .ok (.iload_n 2, 1) := by decide +kernel
theorem dX7_variety_21 : decode cX7_variety 21 = .ok (.iconst 3, 1) := by decide +kernel
theorem dX7_variety_22 : decode cX7_variety 22 = .ok (.aload_n 0, 1) := by decide +kernel
theorem dX7_variety_23 : decode cX7_variety 23 = .ok (.getfield 17, 3) := by decide +kernel
theorem dX7_variety_26 : decode cX7_variety 26 = .ok (.iload_n 3, 1) := by decide +kernel
theorem dX7_variety_27 : decode cX7_variety 27 = .ok (.aaload, 1) := by decide +kernel
theorem dX7_variety_28 : decode cX7_variety 28 = .ok (.getfield 326, 3) := by decide +kernel
theorem dX7_variety_31 : decode cX7_variety 31 = .ok (.imul, 1) := by decide +kernel
theorem dX7_variety_32 : decode cX7_variety 32 = .ok (.iadd, 1) := by decide +kernel
theorem dX7_variety_33 : decode cX7_variety 33 = .ok (.istore_n 2, 1) := by decide +kernel
theorem dX7_variety_34 : decode cX7_variety 34 = .ok (.iinc 3 1, 3) := by decide +kernel
theorem dX7_variety_37 : decode cX7_variety 37 = .ok (.goto (-33), 3) := by decide +kernel
theorem dX7_variety_40 : decode cX7_variety 40 = .ok (.iload_n 2, 1) := by decide +kernel
theorem dX7_variety_41 : decode cX7_variety 41 = .ok (.bipush 8, 2) := by decide +kernel
theorem dX7_variety_43 : decode cX7_variety 43 = .ok (.aload_n 1, 1) := by decide +kernel
theorem dX7_variety_44 : decode cX7_variety 44 = .ok (.invokevirtual 516, 3) := by decide +kernel
theorem dX7_variety_47 : decode cX7_variety 47 = .ok (.imul, 1) := by decide +kernel
theorem dX7_variety_48 : decode cX7_variety 48 = .ok (.isub, 1) := by decide +kernel
theorem dX7_variety_49 : decode cX7_variety 49 = .ok (.iconst 0, 1) := by decide +kernel
theorem dX7_variety_50 : decode cX7_variety 50 = .ok (.bipush 100, 2) := by decide +kernel
theorem dX7_variety_52 : decode cX7_variety 52 = .ok (.invokestatic 519, 3) := by decide +kernel
theorem dX7_variety_55 : decode cX7_variety 55 = .ok (.ireturn, 1) := by decide +kernel
theorem dX7_heard_0 : decode cX7_heard 0 = .ok (.aload_n 0, 1) := by decide +kernel
theorem dX7_heard_1 : decode cX7_heard 1 = .ok (.aload_n 1, 1) := by decide +kernel
theorem dX7_heard_2 : decode cX7_heard 2 = .ok (.invokevirtual 355, 3) := by decide +kernel
theorem dX7_heard_5 : decode cX7_heard 5 = .ok (.aload_n 0, 1) := by decide +kernel
theorem dX7_heard_6 : decode cX7_heard 6 = .ok (.aload_n 1, 1) := by decide +kernel
theorem dX7_heard_7 : decode cX7_heard 7 = .ok (.invokevirtual 362, 3) := by decide +kernel
theorem dX7_heard_10 : decode cX7_heard 10 = .ok (.iadd, 1) := by decide +kernel
theorem dX7_heard_11 : decode cX7_heard 11 = .ok (.aload_n 0, 1) := by decide +kernel
theorem dX7_heard_12 : decode cX7_heard 12 = .ok (.aload_n 1, 1) := by decide +kernel
theorem dX7_heard_13 : decode cX7_heard 13 = .ok (.invokevirtual 365, 3) := by decide +kernel
theorem dX7_heard_16 : decode cX7_heard 16 = .ok (.iadd, 1) := by decide +kernel
theorem dX7_heard_17 : decode cX7_heard 17 = .ok (.ireturn, 1) := by decide +kernel
theorem dX7_totalNow_0 : decode cX7_totalNow 0 = .ok (.aload_n 0, 1) := by decide +kernel
theorem dX7_totalNow_1 : decode cX7_totalNow 1 = .ok (.aload_n 0, 1) := by decide +kernel
theorem dX7_totalNow_2 : decode cX7_totalNow 2 = .ok (.getfield 37, 3) := by decide +kernel
theorem dX7_totalNow_5 : decode cX7_totalNow 5 = .ok (.invokevirtual 345, 3) := by decide +kernel
theorem dX7_totalNow_8 : decode cX7_totalNow 8 = .ok (.aload_n 0, 1) := by decide +kernel
theorem dX7_totalNow_9 : decode cX7_totalNow 9 = .ok (.invokevirtual 359, 3) := by decide +kernel
theorem dX7_totalNow_12 : decode cX7_totalNow 12 = .ok (.aload_n 0, 1) := by decide +kernel
theorem dX7_totalNow_13 : decode cX7_totalNow 13 = .ok (.aload_n 0, 1) := by decide +kernel
theorem dX7_totalNow_14 : decode cX7_totalNow 14 = .ok (.getfield 30, 3) := by decide +kernel
theorem dX7_totalNow_17 : decode cX7_totalNow 17 = .ok (.invokevirtual 386, 3) := by decide +kernel
theorem dX7_totalNow_20 : decode cX7_totalNow 20 = .ok (.iadd, 1) := by decide +kernel
theorem dX7_totalNow_21 : decode cX7_totalNow 21 = .ok (.ireturn, 1) := by decide +kernel
theorem dX7_heardIfTaught_0 : decode cX7_heardIfTaught 0 = .ok (.aload_n 0, 1) := by decide +kernel
theorem dX7_heardIfTaught_1 : decode cX7_heardIfTaught 1 = .ok (.getfield 72, 3) := by decide +kernel
theorem dX7_heardIfTaught_4 : decode cX7_heardIfTaught 4 = .ok (.iload_n 2, 1) := by decide +kernel
theorem dX7_heardIfTaught_5 : decode cX7_heardIfTaught 5 = .ok (.iaload, 1) := by decide +kernel
theorem dX7_heardIfTaught_6 : decode cX7_heardIfTaught 6 = .ok (.istore 4, 2) := by decide +kernel
theorem dX7_heardIfTaught_8 : decode cX7_heardIfTaught 8 = .ok (.aload_n 0, 1) := by decide +kernel
theorem dX7_heardIfTaught_9 : decode cX7_heardIfTaught 9 = .ok (.aload_n 0, 1) := by decide +kernel
theorem dX7_heardIfTaught_10 : decode cX7_heardIfTaught 10 = .ok (.getfield 69, 3) := by decide +kernel
theorem dX7_heardIfTaught_13 : decode cX7_heardIfTaught 13 = .ok (.iload_n 1, 1) := by decide +kernel
theorem dX7_heardIfTaught_14 : decode cX7_heardIfTaught 14 = .ok (.iload_n 2, 1) := by decide +kernel
theorem dX7_heardIfTaught_15 : decode cX7_heardIfTaught 15 = .ok (.iload_n 3, 1) := by decide +kernel
theorem dX7_heardIfTaught_16 : decode cX7_heardIfTaught 16 = .ok (.invokevirtual 221, 3) := by decide +kernel
theorem dX7_heardIfTaught_19 : decode cX7_heardIfTaught 19 = .ok (.aload_n 0, 1) := by decide +kernel
theorem dX7_heardIfTaught_20 : decode cX7_heardIfTaught 20 = .ok (.getfield 72, 3) := by decide +kernel
theorem dX7_heardIfTaught_23 : decode cX7_heardIfTaught 23 = .ok (.iload_n 2, 1) := by decide +kernel
theorem dX7_heardIfTaught_24 : decode cX7_heardIfTaught 24 = .ok (.aload_n 0, 1) := by decide +kernel
theorem dX7_heardIfTaught_25 : decode cX7_heardIfTaught 25 = .ok (.iload_n 2, 1) := by decide +kernel
theorem dX7_heardIfTaught_26 : decode cX7_heardIfTaught 26 = .ok (.aload_n 0, 1) := by decide +kernel
theorem dX7_heardIfTaught_27 : decode cX7_heardIfTaught 27 = .ok (.getfield 69, 3) := by decide +kernel
theorem dX7_heardIfTaught_30 : decode cX7_heardIfTaught 30 = .ok (.invokevirtual 498, 3) := by decide +kernel
theorem dX7_heardIfTaught_33 : decode cX7_heardIfTaught 33 = .ok (.iastore, 1) := by decide +kernel
theorem dX7_heardIfTaught_34 : decode cX7_heardIfTaught 34 = .ok (.aload_n 0, 1) := by decide +kernel
theorem dX7_heardIfTaught_35 : decode cX7_heardIfTaught 35 = .ok (.aload_n 0, 1) := by decide +kernel
theorem dX7_heardIfTaught_36 : decode cX7_heardIfTaught 36 = .ok (.getfield 30, 3) := by decide +kernel
theorem dX7_heardIfTaught_39 : decode cX7_heardIfTaught 39 = .ok (.invokevirtual 386, 3) := by decide +kernel
theorem dX7_heardIfTaught_42 : decode cX7_heardIfTaught 42 = .ok (.istore 5, 2) := by decide +kernel
theorem dX7_heardIfTaught_44 : decode cX7_heardIfTaught 44 = .ok (.aload_n 0, 1) := by decide +kernel
theorem dX7_heardIfTaught_45 : decode cX7_heardIfTaught 45 = .ok (.getfield 72, 3) := by decide +kernel
theorem dX7_heardIfTaught_48 : decode cX7_heardIfTaught 48 = .ok (.iload_n 2, 1) := by decide +kernel
theorem dX7_heardIfTaught_49 : decode cX7_heardIfTaught 49 = .ok (.iload 4, 2) := by decide +kernel
theorem dX7_heardIfTaught_51 : decode cX7_heardIfTaught 51 = .ok (.iastore, 1) := by decide +kernel
theorem dX7_heardIfTaught_52 : decode cX7_heardIfTaught 52 = .ok (.iload 5, 2) := by decide +kernel
theorem dX7_heardIfTaught_54 : decode cX7_heardIfTaught 54 = .ok (.ireturn, 1) := by decide +kernel
