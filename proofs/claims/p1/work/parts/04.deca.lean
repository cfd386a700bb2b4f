theorem dX0_init_0 : decode cX0_init 0 = .ok (.aload_n 0, 1) := by decide +kernel
theorem dX0_init_1 : decode cX0_init 1 = .ok (.invokespecial 3, 3) := by decide +kernel
theorem dX0_init_4 : decode cX0_init 4 = .ok (.aload_n 0, 1) := by decide +kernel
theorem dX0_init_5 : decode cX0_init 5 = .ok (.bipush 10, 2) := by decide +kernel
theorem dX0_init_7 : decode cX0_init 7 = .ok (.newarray .int, 2) := by decide +kernel
theorem dX0_init_9 : decode cX0_init 9 = .ok (.putfield 9, 3) := by decide +kernel
theorem dX0_init_12 : decode cX0_init 12 = .ok (.return_, 1) := by decide +kernel
theorem dX0_copyFrom_0 : decode cX0_copyFrom 0 = .ok (.aload_n 1, 1) := by decide +kernel
theorem dX0_copyFrom_1 : decode cX0_copyFrom 1 = .ok (.getfield 9, 3) := by decide +kernel
theorem dX0_copyFrom_4 : decode cX0_copyFrom 4 = .ok (.iconst 0, 1) := by decide +kernel
theorem dX0_copyFrom_5 : decode cX0_copyFrom 5 = .ok (.aload_n 0, 1) := by decide +kernel
theorem dX0_copyFrom_6 : decode cX0_copyFrom 6 = .ok (.getfield 9, 3) := by decide +kernel
theorem dX0_copyFrom_9 : decode cX0_copyFrom 9 = .ok (.iconst 0, 1) := by decide +kernel
theorem dX0_copyFrom_10 : decode cX0_copyFrom 10 = .ok (.bipush 10, 2) := by decide +kernel
theorem dX0_copyFrom_12 : decode cX0_copyFrom 12 = .ok (.invokestatic 15, 3) := by decide +kernel
theorem dX0_copyFrom_15 : decode cX0_copyFrom 15 = .ok (.aload_n 0, 1) := by decide +kernel
theorem dX0_copyFrom_16 : decode cX0_copyFrom 16 = .ok (.aload_n 1, 1) := by decide +kernel
theorem dX0_copyFrom_17 : decode cX0_copyFrom 17 = .ok (.getfield 21, 3) := by decide +kernel
theorem dX0_copyFrom_20 : decode cX0_copyFrom 20 = .ok (.putfield 21, 3) := by decide +kernel
theorem dX0_copyFrom_23 : decode cX0_copyFrom 23 = .ok (.return_, 1) := by decide +kernel
theorem dX0_append_0 : decode cX0_append 0 = .ok (.aload_n 0, 1) := by decide +kernel
theorem dX0_append_1 : decode cX0_append 1 = .ok (.getfield 9, 3) := by decide +kernel
theorem dX0_append_4 : decode cX0_append 4 = .ok (.aload_n 0, 1) := by decide +kernel
theorem dX0_append_5 : decode cX0_append 5 = .ok (.getfield 21, 3) := by decide +kernel
theorem dX0_append_8 : decode cX0_append 8 = .ok (.iload_n 1, 1) := by decide +kernel
theorem dX0_append_9 : decode cX0_append 9 = .ok (.iastore, 1) := by decide +kernel
theorem dX0_append_10 : decode cX0_append 10 = .ok (.aload_n 0, 1) := by decide +kernel
theorem dX0_append_11 : decode cX0_append 11 = .ok (.dup, 1) := by decide +kernel
theorem dX0_append_12 : decode cX0_append 12 = .ok (.getfield 21, 3) := by decide +kernel
theorem dX0_append_15 : decode cX0_append 15 = .ok (.iconst 1, 1) := by decide +kernel
theorem dX0_append_16 : decode cX0_append 16 = .ok (.iadd, 1) := by decide +kernel
theorem dX0_append_17 : decode cX0_append 17 = .ok (.putfield 21, 3) := by decide +kernel
theorem dX0_append_20 : decode cX0_append 20 = .ok (.return_, 1) := by decide +kernel
theorem dX0_closeUp_0 : decode cX0_closeUp 0 = .ok (.iload_n 1, 1) := by decide +kernel
theorem dX0_closeUp_1 : decode cX0_closeUp 1 = .ok (.istore_n 2, 1) := by decide +kernel
theorem dX0_closeUp_2 : decode cX0_closeUp 2 = .ok (.iload_n 2, 1) := by decide +kernel
theorem dX0_closeUp_3 : decode cX0_closeUp 3 = .ok (.aload_n 0, 1) := by decide +kernel
theorem dX0_closeUp_4 : decode cX0_closeUp 4 = .ok (.getfield 21, 3) := by decide +kernel
theorem dX0_closeUp_7 : decode cX0_closeUp 7 = .ok (.iconst 1, 1) := by decide +kernel
theorem dX0_closeUp_8 : decode cX0_closeUp 8 = .ok (.isub, 1) := by decide +kernel
theorem dX0_closeUp_9 : decode cX0_closeUp 9 = .ok (.if_icmp .ge 23, 3) := by decide +kernel
theorem dX0_closeUp_12 : decode cX0_closeUp 12 = .ok (.aload_n 0, 1) := by decide +kernel
theorem dX0_closeUp_13 : decode cX0_closeUp 13 = .ok (.getfield 9, 3) := by decide +kernel
theorem dX0_closeUp_16 : decode cX0_closeUp 16 = .ok (.iload_n 2, 1) := by decide +kernel
theorem dX0_closeUp_17 : decode cX0_closeUp 17 = .ok (.aload_n 0, 1) := by decide +kernel
theorem dX0_closeUp_18 : decode cX0_closeUp 18 = .ok (.getfield 9, 3) := by decide +kernel
theorem dX0_closeUp_21 : decode cX0_closeUp 21 = .ok (.iload_n 2, 1) := by decide +kernel
theorem dX0_closeUp_22 : decode cX0_closeUp 22 = .ok (.iconst 1, 1) := by decide +kernel
theorem dX0_closeUp_23 : decode cX0_closeUp 23 = .ok (.iadd, 1) := by decide +kernel
theorem dX0_closeUp_24 : decode cX0_closeUp 24 = .ok (.iaload, 1) := by decide +kernel
theorem dX0_closeUp_25 : decode cX0_closeUp 25 = .ok (.iastore, 1) := by decide +kernel
theorem dX0_closeUp_26 : decode cX0_closeUp 26 = .ok (.iinc 2 1, 3) := by decide +kernel
theorem dX0_closeUp_29 : decode cX0_closeUp 29 = .ok (.goto (-27), 3) := by decide +kernel
theorem dX0_closeUp_32 : decode cX0_closeUp 32 = .ok (.aload_n 0, 1) := by decide +kernel
theorem dX0_closeUp_33 : decode cX0_closeUp 33 = .ok (.dup, 1) := by decide +kernel
theorem dX0_closeUp_34 : decode cX0_closeUp 34 = .ok (.getfield 21, 3) := by decide +kernel
theorem dX0_closeUp_37 : decode cX0_closeUp 37 = .ok (.iconst 1, 1) := by decide +kernel
theorem dX0_closeUp_38 : decode cX0_closeUp 38 = .ok (.isub, 1) := by decide +kernel
theorem dX0_closeUp_39 : decode cX0_closeUp 39 = .ok (.putfield 21, 3) := by decide +kernel
theorem dX0_closeUp_42 : decode cX0_closeUp 42 = .ok (.return_, 1) := by decide +kernel
theorem dX0_placesOf_0 : decode cX0_placesOf 0 = .ok (.iconst 0, 1) := by decide +kernel
theorem dX0_placesOf_1 : decode cX0_placesOf 1 = .ok (.istore_n 2, 1) := by decide +kernel
theorem dX0_placesOf_2 : decode cX0_placesOf 2 = .ok (.iconst 0, 1) := by decide +kernel
theorem dX0_placesOf_3 : decode cX0_placesOf 3 = .ok (.istore_n 3, 1) := by decide +kernel
theorem dX0_placesOf_4 : decode cX0_placesOf 4 = .ok (.iload_n 3, 1) := by decide +kernel
theorem dX0_placesOf_5 : decode cX0_placesOf 5 = .ok (.aload_n 0, 1) := by decide +kernel
theorem dX0_placesOf_6 : decode cX0_placesOf 6 = .ok (.getfield 21, 3) := by decide +kernel
theorem dX0_placesOf_9 : decode cX0_placesOf 9 = .ok (.if_icmp .ge 22, 3) := by decide +kernel
theorem dX0_placesOf_12 : decode cX0_placesOf 12 = .ok (.aload_n 0, 1) := by decide +kernel
theorem dX0_placesOf_13 : decode cX0_placesOf 13 = .ok (.getfield 9, 3) := by decide +kernel
theorem dX0_placesOf_16 : decode cX0_placesOf 16 = .ok (.iload_n 3, 1) := by decide +kernel
theorem dX0_placesOf_17 : decode cX0_placesOf 17 = .ok (.iaload, 1) := by decide +kernel
theorem dX0_placesOf_18 : decode cX0_placesOf 18 = .ok (.iload_n 1, 1) := by decide +kernel
theorem dX0_placesOf_19 : decode cX0_placesOf 19 = .ok (.if_icmp .ne 6, 3) := by decide +kernel
theorem dX0_placesOf_22 : decode cX0_placesOf 22 = .ok (.iinc 2 1, 3) := by decide +kernel
theorem dX0_placesOf_25 : decode cX0_placesOf 25 = .ok (.iinc 3 1, 3) := by decide +kernel
theorem dX0_placesOf_28 : decode cX0_placesOf 28 = .ok (.goto (-24), 3) := by decide +kernel
theorem dX0_placesOf_31 : decode cX0_placesOf 31 = .ok (.iload_n 2, 1) := by decide +kernel
theorem dX0_placesOf_32 : decode cX0_placesOf 32 = .ok (.ireturn, 1) := by decide +kernel
theorem dX0_repeats_0 : decode cX0_repeats 0 = .ok (.iconst 0, 1) := by decide +kernel
theorem dX0_repeats_1 : decode cX0_repeats 1 = .ok (.istore_n 1, 1) := by decide +kernel
theorem dX0_repeats_2 : decode cX0_repeats 2 = .ok (.iconst 1, 1) := by decide +kernel
theorem dX0_repeats_3 : decode cX0_repeats 3 = .ok (.istore_n 2, 1) := by decide +kernel
theorem dX0_repeats_4 : decode cX0_repeats 4 = .ok (.iload_n 2, 1) := by decide +kernel
theorem dX0_repeats_5 : decode cX0_repeats 5 = .ok (.aload_n 0, 1) := by decide +kernel
theorem dX0_repeats_6 : decode cX0_repeats 6 = .ok (.getfield 21, 3) := by decide +kernel
theorem dX0_repeats_9 : decode cX0_repeats 9 = .ok (.if_icmp .ge 29, 3) := by decide +kernel
theorem dX0_repeats_12 : decode cX0_repeats 12 = .ok (.aload_n 0, 1) := by decide +kernel
theorem dX0_repeats_13 : decode cX0_repeats 13 = .ok (.getfield 9, 3) := by decide +kernel
theorem dX0_repeats_16 : decode cX0_repeats 16 = .ok (.iload_n 2, 1) := by decide +kernel
theorem dX0_repeats_17 : decode cX0_repeats 17 = .ok (.iaload, 1) := by decide +kernel
theorem dX0_repeats_18 : decode cX0_repeats 18 = .ok (.aload_n 0, 1) := by decide +kernel
theorem dX0_repeats_19 : decode cX0_repeats 19 = .ok (.getfield 9, 3) := by decide +kernel
theorem dX0_repeats_22 : decode cX0_repeats 22 = .ok (.iload_n 2, 1) := by decide +kernel
theorem dX0_repeats_23 : decode cX0_repeats 23 = .ok (.iconst 1, 1) := by decide +kernel
theorem dX0_repeats_24 : decode cX0_repeats 24 = .ok (.isub, 1) := by decide +kernel
theorem dX0_repeats_25 : decode cX0_repeats 25 = .ok (.iaload, 1) := by decide +kernel
theorem dX0_repeats_26 : decode cX0_repeats 26 = .ok (.if_icmp .ne 6, 3) := by decide +kernel
theorem dX0_repeats_29 : decode cX0_repeats 29 = .ok (.iinc 1 1, 3) := by decide +kernel
theorem dX0_repeats_32 : decode cX0_repeats 32 = .ok (.iinc 2 1, 3) := by decide +kernel
theorem dX0_repeats_35 : decode cX0_repeats 35 = .ok (.goto (-31), 3) := by decide +kernel
theorem dX0_repeats_38 : decode cX0_repeats 38 = .ok (.iload_n 1, 1) := by decide +kernel
theorem dX0_repeats_39 : decode cX0_repeats 39 = .ok (.ireturn, 1) := by decide +kernel
theorem dX0_shuffle_0 : decode cX0_shuffle 0 = .ok (.iload_n 1, 1) := by decide +kernel
theorem dX0_shuffle_1 : decode cX0_shuffle 1 = .ok (.istore_n 2, 1) := by decide +kernel
theorem dX0_shuffle_2 : decode cX0_shuffle 2 = .ok (.iconst 0, 1) := by decide +kernel
theorem dX0_shuffle_3 : decode cX0_shuffle 3 = .ok (.istore_n 3, 1) := by decide +kernel
theorem dX0_shuffle_4 : decode cX0_shuffle 4 = .ok (.iload_n 3, 1) := by decide +kernel
theorem dX0_shuffle_5 : decode cX0_shuffle 5 = .ok (.aload_n 0, 1) := by decide +kernel
theorem dX0_shuffle_6 : decode cX0_shuffle 6 = .ok (.getfield 21, 3) := by decide +kernel
theorem dX0_shuffle_9 : decode cX0_shuffle 9 = .ok (.if_icmp .ge 60, 3) := by decide +kernel
theorem dX0_shuffle_12 : decode cX0_shuffle 12 = .ok (.aload_n 0, 1) := by decide +kernel
theorem dX0_shuffle_13 : decode cX0_shuffle 13 = .ok (.getfield 21, 3) := by decide +kernel
theorem dX0_shuffle_16 : decode cX0_shuffle 16 = .ok (.iload_n 3, 1) := by decide +kernel
theorem dX0_shuffle_17 : decode cX0_shuffle 17 = .ok (.isub, 1) := by decide +kernel
theorem dX0_shuffle_18 : decode cX0_shuffle 18 = .ok (.istore 4, 2) := by decide +kernel
theorem dX0_shuffle_20 : decode cX0_shuffle 20 = .ok (.iload_n 3, 1) := by decide +kernel
theorem dX0_shuffle_21 : decode cX0_shuffle 21 = .ok (.iload_n 2, 1) := by decide +kernel
theorem dX0_shuffle_22 : decode cX0_shuffle 22 = .ok (.iload 4, 2) := by decide +kernel
theorem dX0_shuffle_24 : decode cX0_shuffle 24 = .ok (.irem, 1) := by decide +kernel
theorem dX0_shuffle_25 : decode cX0_shuffle 25 = .ok (.iadd, 1) := by decide +kernel
theorem dX0_shuffle_26 : decode cX0_shuffle 26 = .ok (.istore 5, 2) := by decide +kernel
theorem dX0_shuffle_28 : decode cX0_shuffle 28 = .ok (.iload_n 2, 1) := by decide +kernel
theorem dX0_shuffle_29 : decode cX0_shuffle 29 = .ok (.iload 4, 2) := by decide +kernel
theorem dX0_shuffle_31 : decode cX0_shuffle 31 = .ok (.idiv, 1) := by decide +kernel
theorem dX0_shuffle_32 : decode cX0_shuffle 32 = .ok (.istore_n 2, 1) := by decide +kernel
theorem dX0_shuffle_33 : decode cX0_shuffle 33 = .ok (.aload_n 0, 1) := by decide +kernel
theorem dX0_shuffle_34 : decode cX0_shuffle 34 = .ok (.getfield 9, 3) := by decide +kernel
theorem dX0_shuffle_37 : decode cX0_shuffle 37 = .ok (.iload 5, 2) := by decide +kernel
theorem dX0_shuffle_39 : decode cX0_shuffle 39 = .ok (.iaload, 1) := by decide +kernel
theorem dX0_shuffle_40 : decode cX0_shuffle 40 = .ok (.istore 6, 2) := by decide +kernel
theorem dX0_shuffle_42 : decode cX0_shuffle 42 = .ok (.aload_n 0, 1) := by decide +kernel
theorem dX0_shuffle_43 : decode cX0_shuffle 43 = .ok (.getfield 9, 3) := by decide +kernel
theorem dX0_shuffle_46 : decode cX0_shuffle 46 = .ok (.iload 5, 2) := by decide +kernel
theorem dX0_shuffle_48 : decode cX0_shuffle 48 = .ok (.aload_n 0, 1) := by decide +kernel
theorem dX0_shuffle_49 : decode cX0_shuffle 49 = .ok (.getfield 9, 3) := by decide +kernel
theorem dX0_shuffle_52 : decode cX0_shuffle 52 = .ok (.iload_n 3, 1) := by decide +kernel
theorem dX0_shuffle_53 : decode cX0_shuffle 53 = .ok (.iaload, 1) := by decide +kernel
theorem dX0_shuffle_54 : decode cX0_shuffle 54 = .ok (.iastore, 1) := by decide +kernel
theorem dX0_shuffle_55 : decode cX0_shuffle 55 = .ok (.aload_n 0, 1) := by decide +kernel
theorem dX0_shuffle_56 : decode cX0_shuffle 56 = .ok (.getfield 9, 3) := by decide +kernel
theorem dX0_shuffle_59 : decode cX0_shuffle 59 = .ok (.iload_n 3, 1) := by decide +kernel
theorem dX0_shuffle_60 : decode cX0_shuffle 60 = .ok (.iload 6, 2) := by decide +kernel
theorem dX0_shuffle_62 : decode cX0_shuffle 62 = .ok (.iastore, 1) := by decide +kernel
theorem dX0_shuffle_63 : decode cX0_shuffle 63 = .ok (.iinc 3 1, 3) := by decide +kernel
theorem dX0_shuffle_66 : decode cX0_shuffle 66 = .ok (.goto (-62), 3) := by decide +kernel
theorem dX0_shuffle_69 : decode cX0_shuffle 69 = .ok (.return_, 1) := by decide +kernel
theorem dX1_init_0 : decode cX1_init 0 = .ok (.aload_n 0, 1) := by decide +kernel
theorem dX1_init_1 : decode cX1_init 1 = .ok (.invokespecial 3, 3) := by decide +kernel
theorem dX1_init_4 : decode cX1_init 4 = .ok (.aload_n 0, 1) := by decide +kernel
theorem dX1_init_5 : decode cX1_init 5 = .ok (.bipush 6, 2) := by decide +kernel
theorem dX1_init_7 : decode cX1_init 7 = .ok (.newarray .int, 2) := by decide +kernel
theorem dX1_init_9 : decode cX1_init 9 = .ok (.putfield 9, 3) := by decide +kernel
theorem dX1_init_12 : decode cX1_init 12 = .ok (.aload_n 0, 1) := by decide +kernel
theorem dX1_init_13 : decode cX1_init 13 = .ok (.iconst 3, 1) := by decide +kernel
theorem dX1_init_14 : decode cX1_init 14 = .ok (.newarray .int, 2) := by decide +kernel
theorem dX1_init_16 : decode cX1_init 16 = .ok (.putfield 15, 3) := by decide +kernel
theorem dX1_init_19 : decode cX1_init 19 = .ok (.aload_n 0, 1) := by decide +kernel
theorem dX1_init_20 : decode cX1_init 20 = .ok (.iconst 3, 1) := by decide +kernel
theorem dX1_init_21 : decode cX1_init 21 = .ok (.newarray .int, 2) := by decide +kernel
theorem dX1_init_23 : decode cX1_init 23 = .ok (.putfield 18, 3) := by decide +kernel
theorem dX1_init_26 : decode cX1_init 26 = .ok (.aload_n 0, 1) := by decide +kernel
theorem dX1_init_27 : decode cX1_init 27 = .ok (.iconst 3, 1) := by decide +kernel
theorem dX1_init_28 : decode cX1_init 28 = .ok (.newarray .int, 2) := by decide +kernel
theorem dX1_init_30 : decode cX1_init 30 = .ok (.putfield 21, 3) := by decide +kernel
theorem dX1_init_33 : decode cX1_init 33 = .ok (.return_, 1) := by decide +kernel
theorem dX1_isOver_0 : decode cX1_isOver 0 = .ok (.aload_n 0, 1) := by decide +kernel
theorem dX1_isOver_1 : decode cX1_isOver 1 = .ok (.getfield 24, 3) := by decide +kernel
theorem dX1_isOver_4 : decode cX1_isOver 4 = .ok (.ifCond .ne 11, 3) := by decide +kernel
theorem dX1_isOver_7 : decode cX1_isOver 7 = .ok (.aload_n 0, 1) := by decide +kernel
theorem dX1_isOver_8 : decode cX1_isOver 8 = .ok (.getfield 28, 3) := by decide +kernel
theorem dX1_isOver_11 : decode cX1_isOver 11 = .ok (.iconst 3, 1) := by decide +kernel
theorem dX1_isOver_12 : decode cX1_isOver 12 = .ok (.if_icmp .lt 7, 3) := by decide +kernel
theorem dX1_isOver_15 : decode cX1_isOver 15 = .ok (.iconst 1, 1) := by decide +kernel
theorem dX1_isOver_16 : decode cX1_isOver 16 = .ok (.goto 4, 3) := by decide +kernel
theorem dX1_isOver_19 : decode cX1_isOver 19 = .ok (.iconst 0, 1) := by decide +kernel
theorem dX1_isOver_20 : decode cX1_isOver 20 = .ok (.ireturn, 1) := by decide +kernel
theorem dX1_scoreOf_0 : decode cX1_scoreOf 0 = .ok (.aload_n 0, 1) := by decide +kernel
theorem dX1_scoreOf_1 : decode cX1_scoreOf 1 = .ok (.getfield 15, 3) := by decide +kernel
theorem dX1_scoreOf_4 : decode cX1_scoreOf 4 = .ok (.iconst 0, 1) := by decide +kernel
theorem dX1_scoreOf_5 : decode cX1_scoreOf 5 = .ok (.iaload, 1) := by decide +kernel
theorem dX1_scoreOf_6 : decode cX1_scoreOf 6 = .ok (.aload_n 0, 1) := by decide +kernel
theorem dX1_scoreOf_7 : decode cX1_scoreOf 7 = .ok (.getfield 15, 3) := by decide +kernel
theorem dX1_scoreOf_10 : decode cX1_scoreOf 10 = .ok (.iconst 1, 1) := by decide +kernel
theorem dX1_scoreOf_11 : decode cX1_scoreOf 11 = .ok (.iaload, 1) := by decide +kernel
theorem dX1_scoreOf_12 : decode cX1_scoreOf 12 = .ok (.aload_n 0, 1) := by decide +kernel
theorem dX1_scoreOf_13 : decode cX1_scoreOf 13 = .ok (.getfield 15, 3) := by decide +kernel
theorem dX1_scoreOf_16 : decode cX1_scoreOf 16 = .ok (.iconst 2, 1) := by decide +kernel
theorem dX1_scoreOf_17 : decode cX1_scoreOf 17 = .ok (.iaload, 1) := by decide +kernel
theorem dX1_scoreOf_18 : decode cX1_scoreOf 18 = .ok (.invokestatic 32, 3) := by decide +kernel
theorem dX1_scoreOf_21 : decode cX1_scoreOf 21 = .ok (.invokestatic 32, 3) := by decide +kernel
theorem dX1_scoreOf_24 : decode cX1_scoreOf 24 = .ok (.istore_n 2, 1) := by decide +kernel
theorem dX1_scoreOf_25 : decode cX1_scoreOf 25 = .ok (.aload_n 0, 1) := by decide +kernel
theorem dX1_scoreOf_26 : decode cX1_scoreOf 26 = .ok (.getfield 15, 3) := by decide +kernel
theorem dX1_scoreOf_29 : decode cX1_scoreOf 29 = .ok (.iconst 0, 1) := by decide +kernel
theorem dX1_scoreOf_30 : decode cX1_scoreOf 30 = .ok (.iaload, 1) := by decide +kernel
theorem dX1_scoreOf_31 : decode cX1_scoreOf 31 = .ok (.aload_n 0, 1) := by decide +kernel
theorem dX1_scoreOf_32 : decode cX1_scoreOf 32 = .ok (.getfield 15, 3) := by decide +kernel
theorem dX1_scoreOf_35 : decode cX1_scoreOf 35 = .ok (.iconst 1, 1) := by decide +kernel
theorem dX1_scoreOf_36 : decode cX1_scoreOf 36 = .ok (.iaload, 1) := by decide +kernel
theorem dX1_scoreOf_37 : decode cX1_scoreOf 37 = .ok (.aload_n 0, 1) := by decide +kernel
theorem dX1_scoreOf_38 : decode cX1_scoreOf 38 = .ok (.getfield 15, 3) := by decide +kernel
theorem dX1_scoreOf_41 : decode cX1_scoreOf 41 = .ok (.iconst 2, 1) := by decide +kernel
theorem dX1_scoreOf_42 : decode cX1_scoreOf 42 = .ok (.iaload, 1) := by decide +kernel
theorem dX1_scoreOf_43 : decode cX1_scoreOf 43 = .ok (.invokestatic 38, 3) := by decide +kernel
theorem dX1_scoreOf_46 : decode cX1_scoreOf 46 = .ok (.invokestatic 38, 3) := by decide +kernel
theorem dX1_scoreOf_49 : decode cX1_scoreOf 49 = .ok (.istore_n 3, 1) := by decide +kernel
theorem dX1_scoreOf_50 : decode cX1_scoreOf 50 = .ok (.iload_n 1, 1) := by decide +kernel
theorem dX1_scoreOf_51 : decode cX1_scoreOf 51 = .ok (.aload_n 0, 1) := by decide +kernel
theorem dX1_scoreOf_52 : decode cX1_scoreOf 52 = .ok (.getfield 15, 3) := by decide +kernel
theorem dX1_scoreOf_55 : decode cX1_scoreOf 55 = .ok (.iconst 0, 1) := by decide +kernel
theorem dX1_scoreOf_56 : decode cX1_scoreOf 56 = .ok (.iaload, 1) := by decide +kernel
theorem dX1_scoreOf_57 : decode cX1_scoreOf 57 = .ok (.iadd, 1) := by decide +kernel
theorem dX1_scoreOf_58 : decode cX1_scoreOf 58 = .ok (.aload_n 0, 1) := by decide +kernel
theorem dX1_scoreOf_59 : decode cX1_scoreOf 59 = .ok (.getfield 15, 3) := by decide +kernel
theorem dX1_scoreOf_62 : decode cX1_scoreOf 62 = .ok (.iconst 1, 1) := by decide +kernel
theorem dX1_scoreOf_63 : decode cX1_scoreOf 63 = .ok (.iaload, 1) := by decide +kernel
theorem dX1_scoreOf_64 : decode cX1_scoreOf 64 = .ok (.iadd, 1) := by decide +kernel
theorem dX1_scoreOf_65 : decode cX1_scoreOf 65 = .ok (.aload_n 0, 1) := by decide +kernel
theorem dX1_scoreOf_66 : decode cX1_scoreOf 66 = .ok (.getfield 15, 3) := by decide +kernel
theorem dX1_scoreOf_69 : decode cX1_scoreOf 69 = .ok (.iconst 2, 1) := by decide +kernel
theorem dX1_scoreOf_70 : decode cX1_scoreOf 70 = .ok (.iaload, 1) := by decide +kernel
theorem dX1_scoreOf_71 : decode cX1_scoreOf 71 = .ok (.iadd, 1) := by decide +kernel
theorem dX1_scoreOf_72 : decode cX1_scoreOf 72 = .ok (.iload_n 2, 1) := by decide +kernel
theorem dX1_scoreOf_73 : decode cX1_scoreOf 73 = .ok (.isub, 1) := by decide +kernel
theorem dX1_scoreOf_74 : decode cX1_scoreOf 74 = .ok (.iload_n 3, 1) := by decide +kernel
theorem dX1_scoreOf_75 : decode cX1_scoreOf 75 = .ok (.isub, 1) := by decide +kernel
theorem dX1_scoreOf_76 : decode cX1_scoreOf 76 = .ok (.ireturn, 1) := by decide +kernel
theorem dX1_enter_0 : decode cX1_enter 0 = .ok (.aload_n 0, 1) := by decide +kernel
theorem dX1_enter_1 : decode cX1_enter 1 = .ok (.getfield 28, 3) := by decide +kernel
theorem dX1_enter_4 : decode cX1_enter 4 = .ok (.istore_n 2, 1) := by decide +kernel
theorem dX1_enter_5 : decode cX1_enter 5 = .ok (.aload_n 0, 1) := by decide +kernel
theorem dX1_enter_6 : decode cX1_enter 6 = .ok (.iload_n 2, 1) := by decide +kernel
theorem dX1_enter_7 : decode cX1_enter 7 = .ok (.iload_n 1, 1) := by decide +kernel
theorem dX1_enter_8 : decode cX1_enter 8 = .ok (.invokevirtual 41, 3) := by decide +kernel
theorem dX1_enter_11 : decode cX1_enter 11 = .ok (.istore_n 3, 1) := by decide +kernel
theorem dX1_enter_12 : decode cX1_enter 12 = .ok (.aload_n 0, 1) := by decide +kernel
theorem dX1_enter_13 : decode cX1_enter 13 = .ok (.getfield 18, 3) := by decide +kernel
theorem dX1_enter_16 : decode cX1_enter 16 = .ok (.iload_n 2, 1) := by decide +kernel
theorem dX1_enter_17 : decode cX1_enter 17 = .ok (.iload_n 1, 1) := by decide +kernel
theorem dX1_enter_18 : decode cX1_enter 18 = .ok (.iastore, 1) := by decide +kernel
theorem dX1_enter_19 : decode cX1_enter 19 = .ok (.aload_n 0, 1) := by decide +kernel
theorem dX1_enter_20 : decode cX1_enter 20 = .ok (.getfield 21, 3) := by decide +kernel
theorem dX1_enter_23 : decode cX1_enter 23 = .ok (.iload_n 2, 1) := by decide +kernel
theorem dX1_enter_24 : decode cX1_enter 24 = .ok (.iload_n 3, 1) := by decide +kernel
theorem dX1_enter_25 : decode cX1_enter 25 = .ok (.iastore, 1) := by decide +kernel
theorem dX1_enter_26 : decode cX1_enter 26 = .ok (.aload_n 0, 1) := by decide +kernel
theorem dX1_enter_27 : decode cX1_enter 27 = .ok (.iload_n 2, 1) := by decide +kernel
theorem dX1_enter_28 : decode cX1_enter 28 = .ok (.getstatic 44, 3) := by decide +kernel
theorem dX1_enter_31 : decode cX1_enter 31 = .ok (.arraylength, 1) := by decide +kernel
theorem dX1_enter_32 : decode cX1_enter 32 = .ok (.if_icmp .ge 16, 3) := by decide +kernel
theorem dX1_enter_35 : decode cX1_enter 35 = .ok (.iload_n 3, 1) := by decide +kernel
theorem dX1_enter_36 : decode cX1_enter 36 = .ok (.getstatic 44, 3) := by decide +kernel
theorem dX1_enter_39 : decode cX1_enter 39 = .ok (.iload_n 2, 1) := by decide +kernel
theorem dX1_enter_40 : decode cX1_enter 40 = .ok (.iaload, 1) := by decide +kernel
theorem dX1_enter_41 : decode cX1_enter 41 = .ok (.if_icmp .le 7, 3) := by decide +kernel
theorem dX1_enter_44 : decode cX1_enter 44 = .ok (.iconst 1, 1) := by decide +kernel
theorem dX1_enter_45 : decode cX1_enter 45 = .ok (.goto 4, 3) := by decide +kernel
theorem dX1_enter_48 : decode cX1_enter 48 = .ok (.iconst 0, 1) := by decide +kernel
theorem dX1_enter_49 : decode cX1_enter 49 = .ok (.putfield 24, 3) := by decide +kernel
theorem dX1_enter_52 : decode cX1_enter 52 = .ok (.aload_n 0, 1) := by decide +kernel
theorem dX1_enter_53 : decode cX1_enter 53 = .ok (.dup, 1) := by decide +kernel
theorem dX1_enter_54 : decode cX1_enter 54 = .ok (.getfield 28, 3) := by decide +kernel
theorem dX1_enter_57 : decode cX1_enter 57 = .ok (.iconst 1, 1) := by decide +kernel
theorem dX1_enter_58 : decode cX1_enter 58 = .ok (.iadd, 1) := by decide +kernel
theorem dX1_enter_59 : decode cX1_enter 59 = .ok (.putfield 28, 3) := by decide +kernel
theorem dX1_enter_62 : decode cX1_enter 62 = .ok (.iload_n 3, 1) := by decide +kernel
theorem dX1_enter_63 : decode cX1_enter 63 = .ok (.ireturn, 1) := by decide +kernel
theorem dX1_rankOf_0 : decode cX1_rankOf 0 = .ok (.iconst 0, 1) := by decide +kernel
theorem dX1_rankOf_1 : decode cX1_rankOf 1 = .ok (.istore_n 3, 1) := by decide +kernel
theorem dX1_rankOf_2 : decode cX1_rankOf 2 = .ok (.iconst 0, 1) := by decide +kernel
theorem dX1_rankOf_3 : decode cX1_rankOf 3 = .ok (.istore 4, 2) := by decide +kernel
theorem dX1_rankOf_5 : decode cX1_rankOf 5 = .ok (.iload 4, 2) := by decide +kernel
theorem dX1_rankOf_7 : decode cX1_rankOf 7 = .ok (.aload_n 0, 1) := by decide +kernel
theorem dX1_rankOf_8 : decode cX1_rankOf 8 = .ok (.getfield 47, 3) := by decide +kernel
theorem dX1_rankOf_11 : decode cX1_rankOf 11 = .ok (.if_icmp .ge 28, 3) := by decide +kernel
theorem dX1_rankOf_14 : decode cX1_rankOf 14 = .ok (.aload_n 0, 1) := by decide +kernel
theorem dX1_rankOf_15 : decode cX1_rankOf 15 = .ok (.getfield 9, 3) := by decide +kernel
theorem dX1_rankOf_18 : decode cX1_rankOf 18 = .ok (.iload 4, 2) := by decide +kernel
theorem dX1_rankOf_20 : decode cX1_rankOf 20 = .ok (.iaload, 1) := by decide +kernel
theorem dX1_rankOf_21 : decode cX1_rankOf 21 = .ok (.bipush 15, 2) := by decide +kernel
theorem dX1_rankOf_23 : decode cX1_rankOf 23 = .ok (.iload_n 1, 1) := by decide +kernel
theorem dX1_rankOf_24 : decode cX1_rankOf 24 = .ok (.imul, 1) := by decide +kernel
theorem dX1_rankOf_25 : decode cX1_rankOf 25 = .ok (.iadd, 1) := by decide +kernel
theorem dX1_rankOf_26 : decode cX1_rankOf 26 = .ok (.iload_n 2, 1) := by decide +kernel
theorem dX1_rankOf_27 : decode cX1_rankOf 27 = .ok (.if_icmp .le 6, 3) := by decide +kernel
theorem dX1_rankOf_30 : decode cX1_rankOf 30 = .ok (.iinc 3 1, 3) := by decide +kernel
theorem dX1_rankOf_33 : decode cX1_rankOf 33 = .ok (.iinc 4 1, 3) := by decide +kernel
theorem dX1_rankOf_36 : decode cX1_rankOf 36 = .ok (.goto (-31), 3) := by decide +kernel
theorem dX1_rankOf_39 : decode cX1_rankOf 39 = .ok (.iconst 1, 1) := by decide +kernel
theorem dX1_rankOf_40 : decode cX1_rankOf 40 = .ok (.iload_n 3, 1) := by decide +kernel
theorem dX1_rankOf_41 : decode cX1_rankOf 41 = .ok (.iadd, 1) := by decide +kernel
theorem dX1_rankOf_42 : decode cX1_rankOf 42 = .ok (.ireturn, 1) := by decide +kernel
theorem dX1_prizeOf_0 : decode cX1_prizeOf 0 = .ok (.iload_n 0, 1) := by decide +kernel
theorem dX1_prizeOf_1 : decode cX1_prizeOf 1 = .ok (.iconst 2, 1) := by decide +kernel
theorem dX1_prizeOf_2 : decode cX1_prizeOf 2 = .ok (.if_icmp .ne 25, 3) := by decide +kernel
theorem dX1_prizeOf_5 : decode cX1_prizeOf 5 = .ok (.iload_n 1, 1) := by decide +kernel
theorem dX1_prizeOf_6 : decode cX1_prizeOf 6 = .ok (.iconst 1, 1) := by decide +kernel
theorem dX1_prizeOf_7 : decode cX1_prizeOf 7 = .ok (.getstatic 50, 3) := by decide +kernel
theorem dX1_prizeOf_10 : decode cX1_prizeOf 10 = .ok (.arraylength, 1) := by decide +kernel
theorem dX1_prizeOf_11 : decode cX1_prizeOf 11 = .ok (.invokestatic 53, 3) := by decide +kernel
theorem dX1_prizeOf_14 : decode cX1_prizeOf 14 = .ok (.ifCond .eq 13, 3) := by decide +kernel
theorem dX1_prizeOf_17 : decode cX1_prizeOf 17 = .ok (.getstatic 50, 3) := by decide +kernel
theorem dX1_prizeOf_20 : decode cX1_prizeOf 20 = .ok (.iload_n 1, 1) := by decide +kernel
theorem dX1_prizeOf_21 : decode cX1_prizeOf 21 = .ok (.iconst 1, 1) := by decide +kernel
theorem dX1_prizeOf_22 : decode cX1_prizeOf 22 = .ok (.isub, 1) := by decide +kernel
theorem dX1_prizeOf_23 : decode cX1_prizeOf 23 = .ok (.iaload, 1) := by decide +kernel
theorem dX1_prizeOf_24 : decode cX1_prizeOf 24 = .ok (.goto 4, 3) := by decide +kernel
theorem dX1_prizeOf_27 : decode cX1_prizeOf 27 = .ok (.iconst 0, 1) := by decide +kernel
theorem dX1_prizeOf_28 : decode cX1_prizeOf 28 = .ok (.ireturn, 1) := by decide +kernel
theorem dX2_init_0 : decode cX2_init 0 = .ok (.aload_n 0, 1) := by decide +kernel
theorem dX2_init_1 : decode cX2_init 1 = .ok (.invokespecial 3, 3) := by decide +kernel
theorem dX2_init_4 : decode cX2_init 4 = .ok (.aload_n 0, 1) := by decide +kernel
theorem dX2_init_5 : decode cX2_init 5 = .ok (.bipush 8, 2) := by decide +kernel
theorem dX2_init_7 : decode cX2_init 7 = .ok (.bipush 8, 2) := by decide +kernel
theorem dX2_init_9 : decode cX2_init 9 = .ok (.multianewarray 9 2, 4) := by decide +kernel
theorem dX2_init_13 : decode cX2_init 13 = .ok (.putfield 11, 3) := by decide +kernel
theorem dX2_init_16 : decode cX2_init 16 = .ok (.aload_n 0, 1) := by decide +kernel
theorem dX2_init_17 : decode cX2_init 17 = .ok (.bipush 8, 2) := by decide +kernel
theorem dX2_init_19 : decode cX2_init 19 = .ok (.newarray .int, 2) := by decide +kernel
theorem dX2_init_21 : decode cX2_init 21 = .ok (.putfield 16, 3) := by decide +kernel
theorem dX2_init_24 : decode cX2_init 24 = .ok (.return_, 1) := by decide +kernel
theorem dX2_copyFrom_0 : decode cX2_copyFrom 0 = .ok (.iconst 0, 1) := by decide +kernel
theorem dX2_copyFrom_1 : decode cX2_copyFrom 1 = .ok (.istore_n 2, 1) := by decide +kernel
theorem dX2_copyFrom_2 : decode cX2_copyFrom 2 = .ok (.iload_n 2, 1) := by decide +kernel
theorem dX2_copyFrom_3 : decode cX2_copyFrom 3 = .ok (.bipush 8, 2) := by decide +kernel
theorem dX2_copyFrom_5 : decode cX2_copyFrom 5 = .ok (.if_icmp .ge 40, 3) := by decide +kernel
theorem dX2_copyFrom_8 : decode cX2_copyFrom 8 = .ok (.aload_n 1, 1) := by decide +kernel
theorem dX2_copyFrom_9 : decode cX2_copyFrom 9 = .ok (.getfield 11, 3) := by decide +kernel
theorem dX2_copyFrom_12 : decode cX2_copyFrom 12 = .ok (.iload_n 2, 1) := by decide +kernel
theorem dX2_copyFrom_13 : decode cX2_copyFrom 13 = .ok (.aaload, 1) := by decide +kernel
theorem dX2_copyFrom_14 : decode cX2_copyFrom 14 = .ok (.iconst 0, 1) := by decide +kernel
theorem dX2_copyFrom_15 : decode cX2_copyFrom 15 = .ok (.aload_n 0, 1) := by decide +kernel
theorem dX2_copyFrom_16 : decode cX2_copyFrom 16 = .ok (.getfield 11, 3) := by decide +kernel
theorem dX2_copyFrom_19 : decode cX2_copyFrom 19 = .ok (.iload_n 2, 1) := by decide +kernel
theorem dX2_copyFrom_20 : decode cX2_copyFrom 20 = .ok (.aaload, 1) := by decide +kernel
theorem dX2_copyFrom_21 : decode cX2_copyFrom 21 = .ok (.iconst 0, 1) := by decide +kernel
theorem dX2_copyFrom_22 : decode cX2_copyFrom 22 = .ok (.bipush 8, 2) := by decide +kernel
theorem dX2_copyFrom_24 : decode cX2_copyFrom 24 = .ok (.invokestatic 20, 3) := by decide +kernel
theorem dX2_copyFrom_27 : decode cX2_copyFrom 27 = .ok (.aload_n 0, 1) := by decide +kernel
theorem dX2_copyFrom_28 : decode cX2_copyFrom 28 = .ok (.getfield 16, 3) := by decide +kernel
theorem dX2_copyFrom_31 : decode cX2_copyFrom 31 = .ok (.iload_n 2, 1) := by decide +kernel
theorem dX2_copyFrom_32 : decode cX2_copyFrom 32 = .ok (.aload_n 1, 1) := by decide +kernel
theorem dX2_copyFrom_33 : decode cX2_copyFrom 33 = .ok (.getfield 16, 3) := by decide +kernel
theorem dX2_copyFrom_36 : decode cX2_copyFrom 36 = .ok (.iload_n 2, 1) := by decide +kernel
theorem dX2_copyFrom_37 : decode cX2_copyFrom 37 = .ok (.iaload, 1) := by decide +kernel
theorem dX2_copyFrom_38 : decode cX2_copyFrom 38 = .ok (.iastore, 1) := by decide +kernel
theorem dX2_copyFrom_39 : decode cX2_copyFrom 39 = .ok (.iinc 2 1, 3) := by decide +kernel
theorem dX2_copyFrom_42 : decode cX2_copyFrom 42 = .ok (.goto (-40), 3) := by decide +kernel
theorem dX2_copyFrom_45 : decode cX2_copyFrom 45 = .ok (.return_, 1) := by decide +kernel
theorem dX2_learn_0 : decode cX2_learn 0 = .ok (.aload_n 0, 1) := by decide +kernel
theorem dX2_learn_1 : decode cX2_learn 1 = .ok (.getfield 11, 3) := by decide +kernel
theorem dX2_learn_4 : decode cX2_learn 4 = .ok (.iload_n 1, 1) := by decide +kernel
theorem dX2_learn_5 : decode cX2_learn 5 = .ok (.aaload, 1) := by decide +kernel
theorem dX2_learn_6 : decode cX2_learn 6 = .ok (.iload_n 2, 1) := by decide +kernel
theorem dX2_learn_7 : decode cX2_learn 7 = .ok (.iload 4, 2) := by decide +kernel
theorem dX2_learn_9 : decode cX2_learn 9 = .ok (.aload_n 0, 1) := by decide +kernel
theorem dX2_learn_10 : decode cX2_learn 10 = .ok (.getfield 11, 3) := by decide +kernel
theorem dX2_learn_13 : decode cX2_learn 13 = .ok (.iload_n 1, 1) := by decide +kernel
theorem dX2_learn_14 : decode cX2_learn 14 = .ok (.aaload, 1) := by decide +kernel
theorem dX2_learn_15 : decode cX2_learn 15 = .ok (.iload_n 2, 1) := by decide +kernel
theorem dX2_learn_16 : decode cX2_learn 16 = .ok (.iaload, 1) := by decide +kernel
theorem dX2_learn_17 : decode cX2_learn 17 = .ok (.iload_n 3, 1) := by decide +kernel
theorem dX2_learn_18 : decode cX2_learn 18 = .ok (.iadd, 1) := by decide +kernel
theorem dX2_learn_19 : decode cX2_learn 19 = .ok (.invokestatic 26, 3) := by decide +kernel
theorem dX2_learn_22 : decode cX2_learn 22 = .ok (.iastore, 1) := by decide +kernel
theorem dX2_learn_23 : decode cX2_learn 23 = .ok (.aload_n 0, 1) := by decide +kernel
theorem dX2_learn_24 : decode cX2_learn 24 = .ok (.getfield 16, 3) := by decide +kernel
theorem dX2_learn_27 : decode cX2_learn 27 = .ok (.iload_n 1, 1) := by decide +kernel
theorem dX2_learn_28 : decode cX2_learn 28 = .ok (.dup2, 1) := by decide +kernel
theorem dX2_learn_29 : decode cX2_learn 29 = .ok (.iaload, 1) := by decide +kernel
theorem dX2_learn_30 : decode cX2_learn 30 = .ok (.iconst 1, 1) := by decide +kernel
theorem dX2_learn_31 : decode cX2_learn 31 = .ok (.iload_n 2, 1) := by decide +kernel
theorem dX2_learn_32 : decode cX2_learn 32 = .ok (.ishl, 1) := by decide +kernel
theorem dX2_learn_33 : decode cX2_learn 33 = .ok (.ior, 1) := by decide +kernel
theorem dX2_learn_34 : decode cX2_learn 34 = .ok (.iastore, 1) := by decide +kernel
theorem dX2_learn_35 : decode cX2_learn 35 = .ok (.return_, 1) := by decide +kernel
theorem dX2_halve_0 : decode cX2_halve 0 = .ok (.aload_n 0, 1) := by decide +kernel
theorem dX2_halve_1 : decode cX2_halve 1 = .ok (.getfield 11, 3) := by decide +kernel
theorem dX2_halve_4 : decode cX2_halve 4 = .ok (.iload_n 1, 1) := by decide +kernel
theorem dX2_halve_5 : decode cX2_halve 5 = .ok (.aaload, 1) := by decide +kernel
theorem dX2_halve_6 : decode cX2_halve 6 = .ok (.iload_n 2, 1) := by decide +kernel
theorem dX2_halve_7 : decode cX2_halve 7 = .ok (.iload_n 3, 1) := by decide +kernel
theorem dX2_halve_8 : decode cX2_halve 8 = .ok (.aload_n 0, 1) := by decide +kernel
theorem dX2_halve_9 : decode cX2_halve 9 = .ok (.getfield 11, 3) := by decide +kernel
theorem dX2_halve_12 : decode cX2_halve 12 = .ok (.iload_n 1, 1) := by decide +kernel
theorem dX2_halve_13 : decode cX2_halve 13 = .ok (.aaload, 1) := by decide +kernel
theorem dX2_halve_14 : decode cX2_halve 14 = .ok (.iload_n 2, 1) := by decide +kernel
theorem dX2_halve_15 : decode cX2_halve 15 = .ok (.iaload, 1) := by decide +kernel
theorem dX2_halve_16 : decode cX2_halve 16 = .ok (.iconst 2, 1) := by decide +kernel
theorem dX2_halve_17 : decode cX2_halve 17 = .ok (.idiv, 1) := by decide +kernel
theorem dX2_halve_18 : decode cX2_halve 18 = .ok (.invokestatic 26, 3) := by decide +kernel
theorem dX2_halve_21 : decode cX2_halve 21 = .ok (.iastore, 1) := by decide +kernel
theorem dX2_halve_22 : decode cX2_halve 22 = .ok (.return_, 1) := by decide +kernel
theorem dX2_sleep_0 : decode cX2_sleep 0 = .ok (.iconst 0, 1) := by decide +kernel
theorem dX2_sleep_1 : decode cX2_sleep 1 = .ok (.istore_n 3, 1) := by decide +kernel
theorem dX2_sleep_2 : decode cX2_sleep 2 = .ok (.iload_n 3, 1) := by decide +kernel
theorem dX2_sleep_3 : decode cX2_sleep 3 = .ok (.bipush 8, 2) := by decide +kernel
theorem dX2_sleep_5 : decode cX2_sleep 5 = .ok (.if_icmp .ge 79, 3) := by decide +kernel
theorem dX2_sleep_8 : decode cX2_sleep 8 = .ok (.iconst 0, 1) := by decide +kernel
theorem dX2_sleep_9 : decode cX2_sleep 9 = .ok (.istore 4, 2) := by decide +kernel
theorem dX2_sleep_11 : decode cX2_sleep 11 = .ok (.iload 4, 2) := by decide +kernel
theorem dX2_sleep_13 : decode cX2_sleep 13 = .ok (.iload_n 2, 1) := by decide +kernel
theorem dX2_sleep_14 : decode cX2_sleep 14 = .ok (.if_icmp .ge 57, 3) := by decide +kernel
theorem dX2_sleep_17 : decode cX2_sleep 17 = .ok (.aload_n 0, 1) := by decide +kernel
theorem dX2_sleep_18 : decode cX2_sleep 18 = .ok (.getfield 16, 3) := by decide +kernel
theorem dX2_sleep_21 : decode cX2_sleep 21 = .ok (.iload_n 3, 1) := by decide +kernel
theorem dX2_sleep_22 : decode cX2_sleep 22 = .ok (.iaload, 1) := by decide +kernel
theorem dX2_sleep_23 : decode cX2_sleep 23 = .ok (.iload 4, 2) := by decide +kernel
theorem dX2_sleep_25 : decode cX2_sleep 25 = .ok (.ishr, 1) := by decide +kernel
theorem dX2_sleep_26 : decode cX2_sleep 26 = .ok (.iconst 1, 1) := by decide +kernel
theorem dX2_sleep_27 : decode cX2_sleep 27 = .ok (.iand, 1) := by decide +kernel
theorem dX2_sleep_28 : decode cX2_sleep 28 = .ok (.ifCond .ne 37, 3) := by decide +kernel
theorem dX2_sleep_31 : decode cX2_sleep 31 = .ok (.aload_n 0, 1) := by decide +kernel
theorem dX2_sleep_32 : decode cX2_sleep 32 = .ok (.getfield 11, 3) := by decide +kernel
theorem dX2_sleep_35 : decode cX2_sleep 35 = .ok (.iload_n 3, 1) := by decide +kernel
theorem dX2_sleep_36 : decode cX2_sleep 36 = .ok (.aaload, 1) := by decide +kernel
theorem dX2_sleep_37 : decode cX2_sleep 37 = .ok (.iload 4, 2) := by decide +kernel
theorem dX2_sleep_39 : decode cX2_sleep 39 = .ok (.iconst 0, 1) := by decide +kernel
theorem dX2_sleep_40 : decode cX2_sleep 40 = .ok (.aload_n 0, 1) := by decide +kernel
theorem dX2_sleep_41 : decode cX2_sleep 41 = .ok (.getfield 11, 3) := by decide +kernel
theorem dX2_sleep_44 : decode cX2_sleep 44 = .ok (.iload_n 3, 1) := by decide +kernel
theorem dX2_sleep_45 : decode cX2_sleep 45 = .ok (.aaload, 1) := by decide +kernel
theorem dX2_sleep_46 : decode cX2_sleep 46 = .ok (.iload 4, 2) := by decide +kernel
theorem dX2_sleep_48 : decode cX2_sleep 48 = .ok (.iaload, 1) := by decide +kernel
theorem dX2_sleep_49 : decode cX2_sleep 49 = .ok (.aload_n 1, 1) := by decide +kernel
theorem dX2_sleep_50 : decode cX2_sleep 50 = .ok (.iload 4, 2) := by decide +kernel
theorem dX2_sleep_52 : decode cX2_sleep 52 = .ok (.aaload, 1) := by decide +kernel
theorem dX2_sleep_53 : decode cX2_sleep 53 = .ok (.getfield 32, 3) := by decide +kernel
theorem dX2_sleep_56 : decode cX2_sleep 56 = .ok (.iconst 2, 1) := by decide +kernel
theorem dX2_sleep_57 : decode cX2_sleep 57 = .ok (.idiv, 1) := by decide +kernel
theorem dX2_sleep_58 : decode cX2_sleep 58 = .ok (.isub, 1) := by decide +kernel
theorem dX2_sleep_59 : decode cX2_sleep 59 = .ok (.iconst 1, 1) := by decide +kernel
theorem dX2_sleep_60 : decode cX2_sleep 60 = .ok (.isub, 1) := by decide +kernel
theorem dX2_sleep_61 : decode cX2_sleep 61 = .ok (.invokestatic 38, 3) := by decide +kernel
theorem dX2_sleep_64 : decode cX2_sleep 64 = .ok (.iastore, 1) := by decide +kernel
theorem dX2_sleep_65 : decode cX2_sleep 65 = .ok (.iinc 4 1, 3) := by decide +kernel
theorem dX2_sleep_68 : decode cX2_sleep 68 = .ok (.goto (-57), 3) := by decide +kernel
theorem dX2_sleep_71 : decode cX2_sleep 71 = .ok (.aload_n 0, 1) := by decide +kernel
theorem dX2_sleep_72 : decode cX2_sleep 72 = .ok (.getfield 16, 3) := by decide +kernel
theorem dX2_sleep_75 : decode cX2_sleep 75 = .ok (.iload_n 3, 1) := by decide +kernel
theorem dX2_sleep_76 : decode cX2_sleep 76 = .ok (.iconst 0, 1) := by decide +kernel
theorem dX2_sleep_77 : decode cX2_sleep 77 = .ok (.iastore, 1) := by decide +kernel
theorem dX2_sleep_78 : decode cX2_sleep 78 = .ok (.iinc 3 1, 3) := by decide +kernel
theorem dX2_sleep_81 : decode cX2_sleep 81 = .ok (.goto (-79), 3) := by decide +kernel
theorem dX2_sleep_84 : decode cX2_sleep 84 = .ok (.return_, 1) := by decide +kernel
theorem dX3_init_0 : decode cX3_init 0 = .ok (.aload_n 0, 1) := by decide +kernel
theorem dX3_init_1 : decode cX3_init 1 = .ok (.invokespecial 3, 3) := by decide +kernel
theorem dX3_init_4 : decode cX3_init 4 = .ok (.aload_n 0, 1) := by decide +kernel
theorem dX3_init_5 : decode cX3_init 5 = .ok (.bipush 8, 2) := by decide +kernel
theorem dX3_init_7 : decode cX3_init 7 = .ok (.newarray .int, 2) := by decide +kernel
theorem dX3_init_9 : decode cX3_init 9 = .ok (.putfield 9, 3) := by decide +kernel
theorem dX3_init_12 : decode cX3_init 12 = .ok (.aload_n 0, 1) := by decide +kernel
theorem dX3_init_13 : decode cX3_init 13 = .ok (.iload_n 1, 1) := by decide +kernel
theorem dX3_init_14 : decode cX3_init 14 = .ok (.putfield 15, 3) := by decide +kernel
theorem dX3_init_17 : decode cX3_init 17 = .ok (.aload_n 0, 1) := by decide +kernel
theorem dX3_init_18 : decode cX3_init 18 = .ok (.iload_n 2, 1) := by decide +kernel
theorem dX3_init_19 : decode cX3_init 19 = .ok (.putfield 19, 3) := by decide +kernel
theorem dX3_init_22 : decode cX3_init 22 = .ok (.iconst 0, 1) := by decide +kernel
theorem dX3_init_23 : decode cX3_init 23 = .ok (.istore_n 3, 1) := by decide +kernel
theorem dX3_init_24 : decode cX3_init 24 = .ok (.iload_n 3, 1) := by decide +kernel
theorem dX3_init_25 : decode cX3_init 25 = .ok (.bipush 8, 2) := by decide +kernel
theorem dX3_init_27 : decode cX3_init 27 = .ok (.if_icmp .ge 33, 3) := by decide +kernel
theorem dX3_init_30 : decode cX3_init 30 = .ok (.aload_n 0, 1) := by decide +kernel
theorem dX3_init_31 : decode cX3_init 31 = .ok (.getfield 9, 3) := by decide +kernel
theorem dX3_init_34 : decode cX3_init 34 = .ok (.iload_n 3, 1) := by decide +kernel
theorem dX3_init_35 : decode cX3_init 35 = .ok (.bipush 7, 2) := by decide +kernel
theorem dX3_init_37 : decode cX3_init 37 = .ok (.iload_n 1, 1) := by decide +kernel
theorem dX3_init_38 : decode cX3_init 38 = .ok (.imul, 1) := by decide +kernel
theorem dX3_init_39 : decode cX3_init 39 = .ok (.iconst 5, 1) := by decide +kernel
theorem dX3_init_40 : decode cX3_init 40 = .ok (.iload_n 3, 1) := by decide +kernel
theorem dX3_init_41 : decode cX3_init 41 = .ok (.imul, 1) := by decide +kernel
theorem dX3_init_42 : decode cX3_init 42 = .ok (.iadd, 1) := by decide +kernel
theorem dX3_init_43 : decode cX3_init 43 = .ok (.iconst 3, 1) := by decide +kernel
theorem dX3_init_44 : decode cX3_init 44 = .ok (.iload_n 2, 1) := by decide +kernel
theorem dX3_init_45 : decode cX3_init 45 = .ok (.imul, 1) := by decide +kernel
theorem dX3_init_46 : decode cX3_init 46 = .ok (.iadd, 1) := by decide +kernel
theorem dX3_init_47 : decode cX3_init 47 = .ok (.bipush 31, 2) := by decide +kernel
theorem dX3_init_49 : decode cX3_init 49 = .ok (.irem, 1) := by decide +kernel
theorem dX3_init_50 : decode cX3_init 50 = .ok (.bipush 15, 2) := by decide +kernel
theorem dX3_init_52 : decode cX3_init 52 = .ok (.isub, 1) := by decide +kernel
theorem dX3_init_53 : decode cX3_init 53 = .ok (.iastore, 1) := by decide +kernel
theorem dX3_init_54 : decode cX3_init 54 = .ok (.iinc 3 1, 3) := by decide +kernel
theorem dX3_init_57 : decode cX3_init 57 = .ok (.goto (-33), 3) := by decide +kernel
theorem dX3_init_60 : decode cX3_init 60 = .ok (.return_, 1) := by decide +kernel
theorem dX3_copyFrom_0 : decode cX3_copyFrom 0 = .ok (.aload_n 0, 1) := by decide +kernel
theorem dX3_copyFrom_1 : decode cX3_copyFrom 1 = .ok (.aload_n 1, 1) := by decide +kernel
theorem dX3_copyFrom_2 : decode cX3_copyFrom 2 = .ok (.getfield 19, 3) := by decide +kernel
theorem dX3_copyFrom_5 : decode cX3_copyFrom 5 = .ok (.putfield 19, 3) := by decide +kernel
theorem dX3_copyFrom_8 : decode cX3_copyFrom 8 = .ok (.aload_n 0, 1) := by decide +kernel
theorem dX3_copyFrom_9 : decode cX3_copyFrom 9 = .ok (.aload_n 1, 1) := by decide +kernel
theorem dX3_copyFrom_10 : decode cX3_copyFrom 10 = .ok (.getfield 22, 3) := by decide +kernel
theorem dX3_copyFrom_13 : decode cX3_copyFrom 13 = .ok (.putfield 22, 3) := by decide +kernel
theorem dX3_copyFrom_16 : decode cX3_copyFrom 16 = .ok (.aload_n 0, 1) := by decide +kernel
theorem dX3_copyFrom_17 : decode cX3_copyFrom 17 = .ok (.aload_n 1, 1) := by decide +kernel
theorem dX3_copyFrom_18 : decode cX3_copyFrom 18 = .ok (.getfield 25, 3) := by decide +kernel
theorem dX3_copyFrom_21 : decode cX3_copyFrom 21 = .ok (.putfield 25, 3) := by decide +kernel
theorem dX3_copyFrom_24 : decode cX3_copyFrom 24 = .ok (.aload_n 1, 1) := by decide +kernel
theorem dX3_copyFrom_25 : decode cX3_copyFrom 25 = .ok (.getfield 9, 3) := by decide +kernel
theorem dX3_copyFrom_28 : decode cX3_copyFrom 28 = .ok (.iconst 0, 1) := by decide +kernel
theorem dX3_copyFrom_29 : decode cX3_copyFrom 29 = .ok (.aload_n 0, 1) := by decide +kernel
theorem dX3_copyFrom_30 : decode cX3_copyFrom 30 = .ok (.getfield 9, 3) := by decide +kernel
theorem dX3_copyFrom_33 : decode cX3_copyFrom 33 = .ok (.iconst 0, 1) := by decide +kernel
theorem dX3_copyFrom_34 : decode cX3_copyFrom 34 = .ok (.bipush 8, 2) := by decide +kernel
theorem dX3_copyFrom_36 : decode cX3_copyFrom 36 = .ok (.invokestatic 28, 3) := by decide +kernel
theorem dX3_copyFrom_39 : decode cX3_copyFrom 39 = .ok (.return_, 1) := by decide +kernel
theorem dX3_isCracked_0 : decode cX3_isCracked 0 = .ok (.aload_n 0, 1) := by decide +kernel
theorem dX3_isCracked_1 : decode cX3_isCracked 1 = .ok (.getfield 22, 3) := by decide +kernel
theorem dX3_isCracked_4 : decode cX3_isCracked 4 = .ok (.sipush 300, 3) := by decide +kernel
theorem dX3_isCracked_7 : decode cX3_isCracked 7 = .ok (.if_icmp .lt 7, 3) := by decide +kernel
theorem dX3_isCracked_10 : decode cX3_isCracked 10 = .ok (.iconst 1, 1) := by decide +kernel
theorem dX3_isCracked_11 : decode cX3_isCracked 11 = .ok (.goto 4, 3) := by decide +kernel
theorem dX3_isCracked_14 : decode cX3_isCracked 14 = .ok (.iconst 0, 1) := by decide +kernel
theorem dX3_isCracked_15 : decode cX3_isCracked 15 = .ok (.ireturn, 1) := by decide +kernel
theorem dX3_notesInTune_0 : decode cX3_notesInTune 0 = .ok (.bipush 6, 2) := by decide +kernel
theorem dX3_notesInTune_2 : decode cX3_notesInTune 2 = .ok (.iconst 2, 1) := by decide +kernel
theorem dX3_notesInTune_3 : decode cX3_notesInTune 3 = .ok (.aload_n 0, 1) := by decide +kernel
theorem dX3_notesInTune_4 : decode cX3_notesInTune 4 = .ok (.getfield 19, 3) := by decide +kernel
theorem dX3_notesInTune_7 : decode cX3_notesInTune 7 = .ok (.imul, 1) := by decide +kernel
theorem dX3_notesInTune_8 : decode cX3_notesInTune 8 = .ok (.iadd, 1) := by decide +kernel
theorem dX3_notesInTune_9 : decode cX3_notesInTune 9 = .ok (.istore_n 1, 1) := by decide +kernel
theorem dX3_notesInTune_10 : decode cX3_notesInTune 10 = .ok (.iconst 0, 1) := by decide +kernel
theorem dX3_notesInTune_11 : decode cX3_notesInTune 11 = .ok (.istore_n 2, 1) := by decide +kernel
theorem dX3_notesInTune_12 : decode cX3_notesInTune 12 = .ok (.iconst 0, 1) := by decide +kernel
theorem dX3_notesInTune_13 : decode cX3_notesInTune 13 = .ok (.istore_n 3, 1) := by decide +kernel
theorem dX3_notesInTune_14 : decode cX3_notesInTune 14 = .ok (.iload_n 3, 1) := by decide +kernel
theorem dX3_notesInTune_15 : decode cX3_notesInTune 15 = .ok (.bipush 8, 2) := by decide +kernel
theorem dX3_notesInTune_17 : decode cX3_notesInTune 17 = .ok (.if_icmp .ge 28, 3) := by decide +kernel
theorem dX3_notesInTune_20 : decode cX3_notesInTune 20 = .ok (.aload_n 0, 1) := by decide +kernel
theorem dX3_notesInTune_21 : decode cX3_notesInTune 21 = .ok (.getfield 9, 3) := by decide +kernel
theorem dX3_notesInTune_24 : decode cX3_notesInTune 24 = .ok (.iload_n 3, 1) := by decide +kernel
theorem dX3_notesInTune_25 : decode cX3_notesInTune 25 = .ok (.iaload, 1) := by decide +kernel
theorem dX3_notesInTune_26 : decode cX3_notesInTune 26 = .ok (.invokestatic 34, 3) := by decide +kernel
theorem dX3_notesInTune_29 : decode cX3_notesInTune 29 = .ok (.iload_n 1, 1) := by decide +kernel
theorem dX3_notesInTune_30 : decode cX3_notesInTune 30 = .ok (.if_icmp .gt 9, 3) := by decide +kernel
theorem dX3_notesInTune_33 : decode cX3_notesInTune 33 = .ok (.iload_n 2, 1) := by decide +kernel
theorem dX3_notesInTune_34 : decode cX3_notesInTune 34 = .ok (.iconst 1, 1) := by decide +kernel
theorem dX3_notesInTune_35 : decode cX3_notesInTune 35 = .ok (.iload_n 3, 1) := by decide +kernel
theorem dX3_notesInTune_36 : decode cX3_notesInTune 36 = .ok (.ishl, 1) := by decide +kernel
theorem dX3_notesInTune_37 : decode cX3_notesInTune 37 = .ok (.ior, 1) := by decide +kernel
theorem dX3_notesInTune_38 : decode cX3_notesInTune 38 = .ok (.istore_n 2, 1) := by decide +kernel
theorem dX3_notesInTune_39 : decode cX3_notesInTune 39 = .ok (.iinc 3 1, 3) := by decide +kernel
theorem dX3_notesInTune_42 : decode cX3_notesInTune 42 = .ok (.goto (-28), 3) := by decide +kernel
theorem dX3_notesInTune_45 : decode cX3_notesInTune 45 = .ok (.iload_n 2, 1) := by decide +kernel
theorem dX3_notesInTune_46 : decode cX3_notesInTune 46 = .ok (.ireturn, 1) := by decide +kernel
theorem dX3_grade_0 : decode cX3_grade 0 = .ok (.aload_n 0, 1) := by decide +kernel
theorem dX3_grade_1 : decode cX3_grade 1 = .ok (.invokevirtual 40, 3) := by decide +kernel
theorem dX3_grade_4 : decode cX3_grade 4 = .ok (.ifCond .eq 7, 3) := by decide +kernel
theorem dX3_grade_7 : decode cX3_grade 7 = .ok (.iconst 0, 1) := by decide +kernel
theorem dX3_grade_8 : decode cX3_grade 8 = .ok (.goto 10, 3) := by decide +kernel
theorem dX3_grade_11 : decode cX3_grade 11 = .ok (.aload_n 0, 1) := by decide +kernel
theorem dX3_grade_12 : decode cX3_grade 12 = .ok (.invokevirtual 44, 3) := by decide +kernel
theorem dX3_grade_15 : decode cX3_grade 15 = .ok (.invokestatic 48, 3) := by decide +kernel
theorem dX3_grade_18 : decode cX3_grade 18 = .ok (.ireturn, 1) := by decide +kernel
theorem dX3_shift_0 : decode cX3_shift 0 = .ok (.aload_n 0, 1) := by decide +kernel
theorem dX3_shift_1 : decode cX3_shift 1 = .ok (.getfield 9, 3) := by decide +kernel
theorem dX3_shift_4 : decode cX3_shift 4 = .ok (.iload_n 1, 1) := by decide +kernel
theorem dX3_shift_5 : decode cX3_shift 5 = .ok (.aload_n 0, 1) := by decide +kernel
theorem dX3_shift_6 : decode cX3_shift 6 = .ok (.getfield 9, 3) := by decide +kernel
theorem dX3_shift_9 : decode cX3_shift 9 = .ok (.iload_n 1, 1) := by decide +kernel
theorem dX3_shift_10 : decode cX3_shift 10 = .ok (.iaload, 1) := by decide +kernel
theorem dX3_shift_11 : decode cX3_shift 11 = .ok (.iload_n 2, 1) := by decide +kernel
theorem dX3_shift_12 : decode cX3_shift 12 = .ok (.iadd, 1) := by decide +kernel
theorem dX3_shift_13 : decode cX3_shift 13 = .ok (.bipush (-99), 2) := by decide +kernel
theorem dX3_shift_15 : decode cX3_shift 15 = .ok (.bipush 99, 2) := by decide +kernel
theorem dX3_shift_17 : decode cX3_shift 17 = .ok (.invokestatic 53, 3) := by decide +kernel
theorem dX3_shift_20 : decode cX3_shift 20 = .ok (.iastore, 1) := by decide +kernel
theorem dX3_shift_21 : decode cX3_shift 21 = .ok (.return_, 1) := by decide +kernel
theorem dX3_strike_0 : decode cX3_strike 0 = .ok (.aload_n 0, 1) := by decide +kernel
theorem dX3_strike_1 : decode cX3_strike 1 = .ok (.iload_n 1, 1) := by decide +kernel
theorem dX3_strike_2 : decode cX3_strike 2 = .ok (.iload_n 2, 1) := by decide +kernel
theorem dX3_strike_3 : decode cX3_strike 3 = .ok (.invokevirtual 57, 3) := by decide +kernel
theorem dX3_strike_6 : decode cX3_strike 6 = .ok (.aload_n 0, 1) := by decide +kernel
theorem dX3_strike_7 : decode cX3_strike 7 = .ok (.iload_n 1, 1) := by decide +kernel
theorem dX3_strike_8 : decode cX3_strike 8 = .ok (.iconst 1, 1) := by decide +kernel
theorem dX3_strike_9 : decode cX3_strike 9 = .ok (.iadd, 1) := by decide +kernel
theorem dX3_strike_10 : decode cX3_strike 10 = .ok (.bipush 8, 2) := by decide +kernel
theorem dX3_strike_12 : decode cX3_strike 12 = .ok (.irem, 1) := by decide +kernel
theorem dX3_strike_13 : decode cX3_strike 13 = .ok (.iload_n 2, 1) := by decide +kernel
theorem dX3_strike_14 : decode cX3_strike 14 = .ok (.iconst 4, 1) := by decide +kernel
theorem dX3_strike_15 : decode cX3_strike 15 = .ok (.idiv, 1) := by decide +kernel
theorem dX3_strike_16 : decode cX3_strike 16 = .ok (.ineg, 1) := by decide +kernel
theorem dX3_strike_17 : decode cX3_strike 17 = .ok (.invokevirtual 57, 3) := by decide +kernel
theorem dX3_strike_20 : decode cX3_strike 20 = .ok (.aload_n 0, 1) := by decide +kernel
theorem dX3_strike_21 : decode cX3_strike 21 = .ok (.iload_n 1, 1) := by decide +kernel
theorem dX3_strike_22 : decode cX3_strike 22 = .ok (.bipush 8, 2) := by decide +kernel
theorem dX3_strike_24 : decode cX3_strike 24 = .ok (.iadd, 1) := by decide +kernel
theorem dX3_strike_25 : decode cX3_strike 25 = .ok (.iconst 1, 1) := by decide +kernel
theorem dX3_strike_26 : decode cX3_strike 26 = .ok (.isub, 1) := by decide +kernel
theorem dX3_strike_27 : decode cX3_strike 27 = .ok (.bipush 8, 2) := by decide +kernel
theorem dX3_strike_29 : decode cX3_strike 29 = .ok (.irem, 1) := by decide +kernel
theorem dX3_strike_30 : decode cX3_strike 30 = .ok (.iload_n 2, 1) := by decide +kernel
theorem dX3_strike_31 : decode cX3_strike 31 = .ok (.iconst 4, 1) := by decide +kernel
theorem dX3_strike_32 : decode cX3_strike 32 = .ok (.idiv, 1) := by decide +kernel
theorem dX3_strike_33 : decode cX3_strike 33 = .ok (.ineg, 1) := by decide +kernel
theorem dX3_strike_34 : decode cX3_strike 34 = .ok (.invokevirtual 57, 3) := by decide +kernel
theorem dX3_strike_37 : decode cX3_strike 37 = .ok (.aload_n 0, 1) := by decide +kernel
theorem dX3_strike_38 : decode cX3_strike 38 = .ok (.dup, 1) := by decide +kernel
theorem dX3_strike_39 : decode cX3_strike 39 = .ok (.getfield 22, 3) := by decide +kernel
theorem dX3_strike_42 : decode cX3_strike 42 = .ok (.iload_n 2, 1) := by decide +kernel
theorem dX3_strike_43 : decode cX3_strike 43 = .ok (.invokestatic 34, 3) := by decide +kernel
theorem dX3_strike_46 : decode cX3_strike 46 = .ok (.iadd, 1) := by decide +kernel
theorem dX3_strike_47 : decode cX3_strike 47 = .ok (.putfield 22, 3) := by decide +kernel
theorem dX3_strike_50 : decode cX3_strike 50 = .ok (.aload_n 0, 1) := by decide +kernel
theorem dX3_strike_51 : decode cX3_strike 51 = .ok (.dup, 1) := by decide +kernel
theorem dX3_strike_52 : decode cX3_strike 52 = .ok (.getfield 25, 3) := by decide +kernel
theorem dX3_strike_55 : decode cX3_strike 55 = .ok (.iconst 1, 1) := by decide +kernel
theorem dX3_strike_56 : decode cX3_strike 56 = .ok (.iadd, 1) := by decide +kernel
theorem dX3_strike_57 : decode cX3_strike 57 = .ok (.putfield 25, 3) := by decide +kernel
theorem dX3_strike_60 : decode cX3_strike 60 = .ok (.return_, 1) := by decide +kernel
theorem dX3_heat_0 : decode cX3_heat 0 = .ok (.aload_n 0, 1) := by decide +kernel
theorem dX3_heat_1 : decode cX3_heat 1 = .ok (.dup, 1) := by decide +kernel
theorem dX3_heat_2 : decode cX3_heat 2 = .ok (.getfield 22, 3) := by decide +kernel
theorem dX3_heat_5 : decode cX3_heat 5 = .ok (.iconst 2, 1) := by decide +kernel
theorem dX3_heat_6 : decode cX3_heat 6 = .ok (.idiv, 1) := by decide +kernel
theorem dX3_heat_7 : decode cX3_heat 7 = .ok (.putfield 22, 3) := by decide +kernel
theorem dX3_heat_10 : decode cX3_heat 10 = .ok (.iconst 0, 1) := by decide +kernel
theorem dX3_heat_11 : decode cX3_heat 11 = .ok (.istore_n 1, 1) := by decide +kernel
theorem dX3_heat_12 : decode cX3_heat 12 = .ok (.iload_n 1, 1) := by decide +kernel
theorem dX3_heat_13 : decode cX3_heat 13 = .ok (.bipush 8, 2) := by decide +kernel
theorem dX3_heat_15 : decode cX3_heat 15 = .ok (.if_icmp .ge 26, 3) := by decide +kernel
theorem dX3_heat_18 : decode cX3_heat 18 = .ok (.aload_n 0, 1) := by decide +kernel
theorem dX3_heat_19 : decode cX3_heat 19 = .ok (.iload_n 1, 1) := by decide +kernel
theorem dX3_heat_20 : decode cX3_heat 20 = .ok (.iload_n 1, 1) := by decide +kernel
theorem dX3_heat_21 : decode cX3_heat 21 = .ok (.iconst 2, 1) := by decide +kernel
theorem dX3_heat_22 : decode cX3_heat 22 = .ok (.irem, 1) := by decide +kernel
theorem dX3_heat_23 : decode cX3_heat 23 = .ok (.ifCond .ne 7, 3) := by decide +kernel
theorem dX3_heat_26 : decode cX3_heat 26 = .ok (.iconst 3, 1) := by decide +kernel
theorem dX3_heat_27 : decode cX3_heat 27 = .ok (.goto 5, 3) := by decide +kernel
theorem dX3_heat_30 : decode cX3_heat 30 = .ok (.bipush (-3), 2) := by decide +kernel
theorem dX3_heat_32 : decode cX3_heat 32 = .ok (.invokevirtual 57, 3) := by decide +kernel
theorem dX3_heat_35 : decode cX3_heat 35 = .ok (.iinc 1 1, 3) := by decide +kernel
theorem dX3_heat_38 : decode cX3_heat 38 = .ok (.goto (-26), 3) := by decide +kernel
theorem dX3_heat_41 : decode cX3_heat 41 = .ok (.return_, 1) := by decide +kernel
theorem dX3_warm_0 : decode cX3_warm 0 = .ok (.iconst 0, 1) := by decide +kernel
theorem dX3_warm_1 : decode cX3_warm 1 = .ok (.istore_n 1, 1) := by decide +kernel
theorem dX3_warm_2 : decode cX3_warm 2 = .ok (.iload_n 1, 1) := by decide +kernel
theorem dX3_warm_3 : decode cX3_warm 3 = .ok (.bipush 8, 2) := by decide +kernel
theorem dX3_warm_5 : decode cX3_warm 5 = .ok (.if_icmp .ge 15, 3) := by decide +kernel
theorem dX3_warm_8 : decode cX3_warm 8 = .ok (.aload_n 0, 1) := by decide +kernel
theorem dX3_warm_9 : decode cX3_warm 9 = .ok (.iload_n 1, 1) := by decide +kernel
theorem dX3_warm_10 : decode cX3_warm 10 = .ok (.iconst 1, 1) := by decide +kernel
theorem dX3_warm_11 : decode cX3_warm 11 = .ok (.invokevirtual 57, 3) := by decide +kernel
theorem dX3_warm_14 : decode cX3_warm 14 = .ok (.iinc 1 1, 3) := by decide +kernel
theorem dX3_warm_17 : decode cX3_warm 17 = .ok (.goto (-15), 3) := by decide +kernel
theorem dX3_warm_20 : decode cX3_warm 20 = .ok (.return_, 1) := by decide +kernel
theorem dX3_wear_0 : decode cX3_wear 0 = .ok (.iconst 0, 1) := by decide +kernel
theorem dX3_wear_1 : decode cX3_wear 1 = .ok (.istore_n 3, 1) := by decide +kernel
theorem dX3_wear_2 : decode cX3_wear 2 = .ok (.iload_n 3, 1) := by decide +kernel
theorem dX3_wear_3 : decode cX3_wear 3 = .ok (.bipush 8, 2) := by decide +kernel
theorem dX3_wear_5 : decode cX3_wear 5 = .ok (.if_icmp .ge 36, 3) := by decide +kernel
theorem dX3_wear_8 : decode cX3_wear 8 = .ok (.iload_n 1, 1) := by decide +kernel
theorem dX3_wear_9 : decode cX3_wear 9 = .ok (.iload_n 3, 1) := by decide +kernel
theorem dX3_wear_10 : decode cX3_wear 10 = .ok (.ishr, 1) := by decide +kernel
theorem dX3_wear_11 : decode cX3_wear 11 = .ok (.iconst 1, 1) := by decide +kernel
theorem dX3_wear_12 : decode cX3_wear 12 = .ok (.iand, 1) := by decide +kernel
theorem dX3_wear_13 : decode cX3_wear 13 = .ok (.iconst 1, 1) := by decide +kernel
theorem dX3_wear_14 : decode cX3_wear 14 = .ok (.if_icmp .ne 21, 3) := by decide +kernel
theorem dX3_wear_17 : decode cX3_wear 17 = .ok (.aload_n 0, 1) := by decide +kernel
theorem dX3_wear_18 : decode cX3_wear 18 = .ok (.iload_n 3, 1) := by decide +kernel
theorem dX3_wear_19 : decode cX3_wear 19 = .ok (.iload_n 3, 1) := by decide +kernel
theorem dX3_wear_20 : decode cX3_wear 20 = .ok (.iload_n 2, 1) := by decide +kernel
theorem dX3_wear_21 : decode cX3_wear 21 = .ok (.iadd, 1) := by decide +kernel
theorem dX3_wear_22 : decode cX3_wear 22 = .ok (.iconst 2, 1) := by decide +kernel
theorem dX3_wear_23 : decode cX3_wear 23 = .ok (.irem, 1) := by decide +kernel
theorem dX3_wear_24 : decode cX3_wear 24 = .ok (.ifCond .ne 7, 3) := by decide +kernel
theorem dX3_wear_27 : decode cX3_wear 27 = .ok (.iconst 1, 1) := by decide +kernel
theorem dX3_wear_28 : decode cX3_wear 28 = .ok (.goto 4, 3) := by decide +kernel
theorem dX3_wear_31 : decode cX3_wear 31 = .ok (.iconst (-1), 1) := by decide +kernel
theorem dX3_wear_32 : decode cX3_wear 32 = .ok (.invokevirtual 57, 3) := by decide +kernel
theorem dX3_wear_35 : decode cX3_wear 35 = .ok (.iinc 3 1, 3) := by decide +kernel
theorem dX3_wear_38 : decode cX3_wear 38 = .ok (.goto (-36), 3) := by decide +kernel
theorem dX3_wear_41 : decode cX3_wear 41 = .ok (.return_, 1) := by decide +kernel
theorem dX3_needsTuner_0 : decode cX3_needsTuner 0 = .ok (.aload_n 0, 1) := by decide +kernel
theorem dX3_needsTuner_1 : decode cX3_needsTuner 1 = .ok (.invokevirtual 40, 3) := by decide +kernel
theorem dX3_needsTuner_4 : decode cX3_needsTuner 4 = .ok (.ifCond .ne 17, 3) := by decide +kernel
theorem dX3_needsTuner_7 : decode cX3_needsTuner 7 = .ok (.aload_n 0, 1) := by decide +kernel
theorem dX3_needsTuner_8 : decode cX3_needsTuner 8 = .ok (.invokevirtual 44, 3) := by decide +kernel
theorem dX3_needsTuner_11 : decode cX3_needsTuner 11 = .ok (.sipush 255, 3) := by decide +kernel
theorem dX3_needsTuner_14 : decode cX3_needsTuner 14 = .ok (.if_icmp .eq 7, 3) := by decide +kernel
theorem dX3_needsTuner_17 : decode cX3_needsTuner 17 = .ok (.iconst 1, 1) := by decide +kernel
theorem dX3_needsTuner_18 : decode cX3_needsTuner 18 = .ok (.goto 4, 3) := by decide +kernel
theorem dX3_needsTuner_21 : decode cX3_needsTuner 21 = .ok (.iconst 0, 1) := by decide +kernel
theorem dX3_needsTuner_22 : decode cX3_needsTuner 22 = .ok (.ireturn, 1) := by decide +kernel
theorem dX3_tuneUpTo_0 : decode cX3_tuneUpTo 0 = .ok (.iconst 0, 1) := by decide +kernel
theorem dX3_tuneUpTo_1 : decode cX3_tuneUpTo 1 = .ok (.istore_n 2, 1) := by decide +kernel
theorem dX3_tuneUpTo_2 : decode cX3_tuneUpTo 2 = .ok (.iload_n 2, 1) := by decide +kernel
theorem dX3_tuneUpTo_3 : decode cX3_tuneUpTo 3 = .ok (.iload_n 1, 1) := by decide +kernel
theorem dX3_tuneUpTo_4 : decode cX3_tuneUpTo 4 = .ok (.if_icmp .ge 20, 3) := by decide +kernel
theorem dX3_tuneUpTo_7 : decode cX3_tuneUpTo 7 = .ok (.aload_n 0, 1) := by decide +kernel
theorem dX3_tuneUpTo_8 : decode cX3_tuneUpTo 8 = .ok (.invokevirtual 61, 3) := by decide +kernel
theorem dX3_tuneUpTo_11 : decode cX3_tuneUpTo 11 = .ok (.ifCond .eq 13, 3) := by decide +kernel
theorem dX3_tuneUpTo_14 : decode cX3_tuneUpTo 14 = .ok (.aload_n 0, 1) := by decide +kernel
theorem dX3_tuneUpTo_15 : decode cX3_tuneUpTo 15 = .ok (.invokevirtual 64, 3) := by decide +kernel
theorem dX3_tuneUpTo_18 : decode cX3_tuneUpTo 18 = .ok (.iinc 2 1, 3) := by decide +kernel
theorem dX3_tuneUpTo_21 : decode cX3_tuneUpTo 21 = .ok (.goto (-19), 3) := by decide +kernel
theorem dX3_tuneUpTo_24 : decode cX3_tuneUpTo 24 = .ok (.iload_n 2, 1) := by decide +kernel
theorem dX3_tuneUpTo_25 : decode cX3_tuneUpTo 25 = .ok (.ireturn, 1) := by decide +kernel
theorem dX3_tuneOnce_0 : decode cX3_tuneOnce 0 = .ok (.iconst 0, 1) := by decide +kernel
theorem dX3_tuneOnce_1 : decode cX3_tuneOnce 1 = .ok (.istore_n 1, 1) := by decide +kernel
theorem dX3_tuneOnce_2 : decode cX3_tuneOnce 2 = .ok (.iconst 1, 1) := by decide +kernel
theorem dX3_tuneOnce_3 : decode cX3_tuneOnce 3 = .ok (.istore_n 2, 1) := by decide +kernel
theorem dX3_tuneOnce_4 : decode cX3_tuneOnce 4 = .ok (.iload_n 2, 1) := by decide +kernel
theorem dX3_tuneOnce_5 : decode cX3_tuneOnce 5 = .ok (.bipush 8, 2) := by decide +kernel
theorem dX3_tuneOnce_7 : decode cX3_tuneOnce 7 = .ok (.if_icmp .ge 32, 3) := by decide +kernel
theorem dX3_tuneOnce_10 : decode cX3_tuneOnce 10 = .ok (.aload_n 0, 1) := by decide +kernel
theorem dX3_tuneOnce_11 : decode cX3_tuneOnce 11 = .ok (.getfield 9, 3) := by decide +kernel
theorem dX3_tuneOnce_14 : decode cX3_tuneOnce 14 = .ok (.iload_n 2, 1) := by decide +kernel
theorem dX3_tuneOnce_15 : decode cX3_tuneOnce 15 = .ok (.iaload, 1) := by decide +kernel
theorem dX3_tuneOnce_16 : decode cX3_tuneOnce 16 = .ok (.invokestatic 34, 3) := by decide +kernel
theorem dX3_tuneOnce_19 : decode cX3_tuneOnce 19 = .ok (.aload_n 0, 1) := by decide +kernel
theorem dX3_tuneOnce_20 : decode cX3_tuneOnce 20 = .ok (.getfield 9, 3) := by decide +kernel
theorem dX3_tuneOnce_23 : decode cX3_tuneOnce 23 = .ok (.iload_n 1, 1) := by decide +kernel
theorem dX3_tuneOnce_24 : decode cX3_tuneOnce 24 = .ok (.iaload, 1) := by decide +kernel
theorem dX3_tuneOnce_25 : decode cX3_tuneOnce 25 = .ok (.invokestatic 34, 3) := by decide +kernel
theorem dX3_tuneOnce_28 : decode cX3_tuneOnce 28 = .ok (.if_icmp .le 5, 3) := by decide +kernel
theorem dX3_tuneOnce_31 : decode cX3_tuneOnce 31 = .ok (.iload_n 2, 1) := by decide +kernel
theorem dX3_tuneOnce_32 : decode cX3_tuneOnce 32 = .ok (.istore_n 1, 1) := by decide +kernel
theorem dX3_tuneOnce_33 : decode cX3_tuneOnce 33 = .ok (.iinc 2 1, 3) := by decide +kernel
theorem dX3_tuneOnce_36 : decode cX3_tuneOnce 36 = .ok (.goto (-32), 3) := by decide +kernel
theorem dX3_tuneOnce_39 : decode cX3_tuneOnce 39 = .ok (.aload_n 0, 1) := by decide +kernel
theorem dX3_tuneOnce_40 : decode cX3_tuneOnce 40 = .ok (.iload_n 1, 1) := by decide +kernel
theorem dX3_tuneOnce_41 : decode cX3_tuneOnce 41 = .ok (.aload_n 0, 1) := by decide +kernel
theorem dX3_tuneOnce_42 : decode cX3_tuneOnce 42 = .ok (.getfield 9, 3) := by decide +kernel
theorem dX3_tuneOnce_45 : decode cX3_tuneOnce 45 = .ok (.iload_n 1, 1) := by decide +kernel
theorem dX3_tuneOnce_46 : decode cX3_tuneOnce 46 = .ok (.iaload, 1) := by decide +kernel
theorem dX3_tuneOnce_47 : decode cX3_tuneOnce 47 = .ok (.ineg, 1) := by decide +kernel
theorem dX3_tuneOnce_48 : decode cX3_tuneOnce 48 = .ok (.bipush (-20), 2) := by decide +kernel
theorem dX3_tuneOnce_50 : decode cX3_tuneOnce 50 = .ok (.bipush 20, 2) := by decide +kernel
theorem dX3_tuneOnce_52 : decode cX3_tuneOnce 52 = .ok (.invokestatic 53, 3) := by decide +kernel
theorem dX3_tuneOnce_55 : decode cX3_tuneOnce 55 = .ok (.invokevirtual 67, 3) := by decide +kernel
theorem dX3_tuneOnce_58 : decode cX3_tuneOnce 58 = .ok (.return_, 1) := by decide +kernel
theorem dX4_init_0 : decode cX4_init 0 = .ok (.aload_n 0, 1) := by decide +kernel
theorem dX4_init_1 : decode cX4_init 1 = .ok (.invokespecial 1, 3) := by decide +kernel
theorem dX4_init_4 : decode cX4_init 4 = .ok (.aload_n 0, 1) := by decide +kernel
theorem dX4_init_5 : decode cX4_init 5 = .ok (.iload_n 1, 1) := by decide +kernel
theorem dX4_init_6 : decode cX4_init 6 = .ok (.putfield 7, 3) := by decide +kernel
theorem dX4_init_9 : decode cX4_init 9 = .ok (.aload_n 0, 1) := by decide +kernel
theorem dX4_init_10 : decode cX4_init 10 = .ok (.iload_n 2, 1) := by decide +kernel
theorem dX4_init_11 : decode cX4_init 11 = .ok (.putfield 13, 3) := by decide +kernel
theorem dX4_init_14 : decode cX4_init 14 = .ok (.aload_n 0, 1) := by decide +kernel
theorem dX4_init_15 : decode cX4_init 15 = .ok (.iload_n 3, 1) := by decide +kernel
theorem dX4_init_16 : decode cX4_init 16 = .ok (.putfield 16, 3) := by decide +kernel
theorem dX4_init_19 : decode cX4_init 19 = .ok (.return_, 1) := by decide +kernel
theorem dX4_tellAnew_0 : decode cX4_tellAnew 0 = .ok (.aload_n 0, 1) := by decide +kernel
theorem dX4_tellAnew_1 : decode cX4_tellAnew 1 = .ok (.iload_n 1, 1) := by decide +kernel
theorem dX4_tellAnew_2 : decode cX4_tellAnew 2 = .ok (.putfield 13, 3) := by decide +kernel
theorem dX4_tellAnew_5 : decode cX4_tellAnew 5 = .ok (.aload_n 0, 1) := by decide +kernel
theorem dX4_tellAnew_6 : decode cX4_tellAnew 6 = .ok (.iload_n 2, 1) := by decide +kernel
theorem dX4_tellAnew_7 : decode cX4_tellAnew 7 = .ok (.putfield 16, 3) := by decide +kernel
theorem dX4_tellAnew_10 : decode cX4_tellAnew 10 = .ok (.aload_n 0, 1) := by decide +kernel
theorem dX4_tellAnew_11 : decode cX4_tellAnew 11 = .ok (.dup, 1) := by decide +kernel
theorem dX4_tellAnew_12 : decode cX4_tellAnew 12 = .ok (.getfield 19, 3) := by decide +kernel
theorem dX4_tellAnew_15 : decode cX4_tellAnew 15 = .ok (.iconst 1, 1) := by decide +kernel
theorem dX4_tellAnew_16 : decode cX4_tellAnew 16 = .ok (.iadd, 1) := by decide +kernel
theorem dX4_tellAnew_17 : decode cX4_tellAnew 17 = .ok (.putfield 19, 3) := by decide +kernel
theorem dX4_tellAnew_20 : decode cX4_tellAnew 20 = .ok (.return_, 1) := by decide +kernel
theorem dX4_noteCount_0 : decode cX4_noteCount 0 = .ok (.aload_n 0, 1) := by decide +kernel
theorem dX4_noteCount_1 : decode cX4_noteCount 1 = .ok (.getfield 16, 3) := by decide +kernel
theorem dX4_noteCount_4 : decode cX4_noteCount 4 = .ok (.invokestatic 22, 3) := by decide +kernel
theorem dX4_noteCount_7 : decode cX4_noteCount 7 = .ok (.ireturn, 1) := by decide +kernel
theorem dX5_init_0 : decode cX5_init 0 = .ok (.aload_n 0, 1) := by decide +kernel
theorem dX5_init_1 : decode cX5_init 1 = .ok (.invokespecial 3, 3) := by decide +kernel
theorem dX5_init_4 : decode cX5_init 4 = .ok (.aload_n 0, 1) := by decide +kernel
theorem dX5_init_5 : decode cX5_init 5 = .ok (.iload_n 1, 1) := by decide +kernel
theorem dX5_init_6 : decode cX5_init 6 = .ok (.putfield 9, 3) := by decide +kernel
theorem dX5_init_9 : decode cX5_init 9 = .ok (.aload_n 0, 1) := by decide +kernel
theorem dX5_init_10 : decode cX5_init 10 = .ok (.iload_n 2, 1) := by decide +kernel
theorem dX5_init_11 : decode cX5_init 11 = .ok (.putfield 15, 3) := by decide +kernel
theorem dX5_init_14 : decode cX5_init 14 = .ok (.aload_n 0, 1) := by decide +kernel
theorem dX5_init_15 : decode cX5_init 15 = .ok (.iload_n 3, 1) := by decide +kernel
theorem dX5_init_16 : decode cX5_init 16 = .ok (.putfield 18, 3) := by decide +kernel
theorem dX5_init_19 : decode cX5_init 19 = .ok (.return_, 1) := by decide +kernel
theorem dX5_panNumber_0 : decode cX5_panNumber 0 = .ok (.aload_n 0, 1) := by decide +kernel
theorem dX5_panNumber_1 : decode cX5_panNumber 1 = .ok (.getfield 21, 3) := by decide +kernel
theorem dX5_panNumber_4 : decode cX5_panNumber 4 = .ok (.ifnonnull 7, 3) := by decide +kernel
theorem dX5_panNumber_7 : decode cX5_panNumber 7 = .ok (.iconst (-1), 1) := by decide +kernel
theorem dX5_panNumber_8 : decode cX5_panNumber 8 = .ok (.goto 10, 3) := by decide +kernel
theorem dX5_panNumber_11 : decode cX5_panNumber 11 = .ok (.aload_n 0, 1) := by decide +kernel
theorem dX5_panNumber_12 : decode cX5_panNumber 12 = .ok (.getfield 21, 3) := by decide +kernel
theorem dX5_panNumber_15 : decode cX5_panNumber 15 = .ok (.getfield 25, 3) := by decide +kernel
theorem dX5_panNumber_18 : decode cX5_panNumber 18 = .ok (.ireturn, 1) := by decide +kernel
theorem dX5_soundingPan_0 : decode cX5_soundingPan 0 = .ok (.aload_n 0, 1) := by decide +kernel
theorem dX5_soundingPan_1 : decode cX5_soundingPan 1 = .ok (.getfield 30, 3) := by decide +kernel
theorem dX5_soundingPan_4 : decode cX5_soundingPan 4 = .ok (.ifCond .ne 20, 3) := by decide +kernel
theorem dX5_soundingPan_7 : decode cX5_soundingPan 7 = .ok (.aload_n 0, 1) := by decide +kernel
theorem dX5_soundingPan_8 : decode cX5_soundingPan 8 = .ok (.getfield 21, 3) := by decide +kernel
theorem dX5_soundingPan_11 : decode cX5_soundingPan 11 = .ok (.ifnull 13, 3) := by decide +kernel
theorem dX5_soundingPan_14 : decode cX5_soundingPan 14 = .ok (.aload_n 0, 1) := by decide +kernel
theorem dX5_soundingPan_15 : decode cX5_soundingPan 15 = .ok (.getfield 21, 3) := by decide +kernel
theorem dX5_soundingPan_18 : decode cX5_soundingPan 18 = .ok (.invokevirtual 34, 3) := by decide +kernel
theorem dX5_soundingPan_21 : decode cX5_soundingPan 21 = .ok (.ifCond .eq 7, 3) := by decide +kernel
theorem dX5_soundingPan_24 : decode cX5_soundingPan 24 = .ok (.aconst_null, 1) := by decide +kernel
theorem dX5_soundingPan_25 : decode cX5_soundingPan 25 = .ok (.goto 7, 3) := by decide +kernel
theorem dX5_soundingPan_28 : decode cX5_soundingPan 28 = .ok (.aload_n 0, 1) := by decide +kernel
theorem dX5_soundingPan_29 : decode cX5_soundingPan 29 = .ok (.getfield 21, 3) := by decide +kernel
theorem dX5_soundingPan_32 : decode cX5_soundingPan 32 = .ok (.areturn, 1) := by decide +kernel
theorem dX5_mostMemory_0 : decode cX5_mostMemory 0 = .ok (.aload_n 1, 1) := by decide +kernel
theorem dX5_mostMemory_1 : decode cX5_mostMemory 1 = .ok (.invokevirtual 38, 3) := by decide +kernel
theorem dX5_mostMemory_4 : decode cX5_mostMemory 4 = .ok (.aload_n 0, 1) := by decide +kernel
theorem dX5_mostMemory_5 : decode cX5_mostMemory 5 = .ok (.getfield 18, 3) := by decide +kernel
theorem dX5_mostMemory_8 : decode cX5_mostMemory 8 = .ok (.if_icmp .le 8, 3) := by decide +kernel
theorem dX5_mostMemory_11 : decode cX5_mostMemory 11 = .ok (.bipush 70, 2) := by decide +kernel
theorem dX5_mostMemory_13 : decode cX5_mostMemory 13 = .ok (.goto 5, 3) := by decide +kernel
theorem dX5_mostMemory_16 : decode cX5_mostMemory 16 = .ok (.bipush 100, 2) := by decide +kernel
theorem dX5_mostMemory_18 : decode cX5_mostMemory 18 = .ok (.ireturn, 1) := by decide +kernel
theorem dX6_init_0 : decode cX6_init 0 = .ok (.aload_n 0, 1) := by decide +kernel
theorem dX6_init_1 : decode cX6_init 1 = .ok (.invokespecial 3, 3) := by decide +kernel
theorem dX6_init_4 : decode cX6_init 4 = .ok (.aload_n 0, 1) := by decide +kernel
theorem dX6_init_5 : decode cX6_init 5 = .ok (.iconst 4, 1) := by decide +kernel
theorem dX6_init_6 : decode cX6_init 6 = .ok (.newarray .int, 2) := by decide +kernel
theorem dX6_init_8 : decode cX6_init 8 = .ok (.putfield 9, 3) := by decide +kernel
theorem dX6_init_11 : decode cX6_init 11 = .ok (.return_, 1) := by decide +kernel
theorem dX6_turn_0 : decode cX6_turn 0 = .ok (.iconst 0, 1) := by decide +kernel
theorem dX6_turn_1 : decode cX6_turn 1 = .ok (.istore_n 1, 1) := by decide +kernel
theorem dX6_turn_2 : decode cX6_turn 2 = .ok (.iload_n 1, 1) := by decide +kernel
theorem dX6_turn_3 : decode cX6_turn 3 = .ok (.iconst 4, 1) := by decide +kernel
theorem dX6_turn_4 : decode cX6_turn 4 = .ok (.if_icmp .ge 16, 3) := by decide +kernel
theorem dX6_turn_7 : decode cX6_turn 7 = .ok (.aload_n 0, 1) := by decide +kernel
theorem dX6_turn_8 : decode cX6_turn 8 = .ok (.getfield 9, 3) := by decide +kernel
theorem dX6_turn_11 : decode cX6_turn 11 = .ok (.iload_n 1, 1) := by decide +kernel
theorem dX6_turn_12 : decode cX6_turn 12 = .ok (.iconst 0, 1) := by decide +kernel
theorem dX6_turn_13 : decode cX6_turn 13 = .ok (.iastore, 1) := by decide +kernel
theorem dX6_turn_14 : decode cX6_turn 14 = .ok (.iinc 1 1, 3) := by decide +kernel
theorem dX6_turn_17 : decode cX6_turn 17 = .ok (.goto (-15), 3) := by decide +kernel
theorem dX6_turn_20 : decode cX6_turn 20 = .ok (.aload_n 0, 1) := by decide +kernel
theorem dX6_turn_21 : decode cX6_turn 21 = .ok (.iconst 0, 1) := by decide +kernel
theorem dX6_turn_22 : decode cX6_turn 22 = .ok (.putfield 15, 3) := by decide +kernel
theorem dX6_turn_25 : decode cX6_turn 25 = .ok (.aload_n 0, 1) := by decide +kernel
theorem dX6_turn_26 : decode cX6_turn 26 = .ok (.iconst 0, 1) := by decide +kernel
theorem dX6_turn_27 : decode cX6_turn 27 = .ok (.putfield 19, 3) := by decide +kernel
theorem dX6_turn_30 : decode cX6_turn 30 = .ok (.aload_n 0, 1) := by decide +kernel
theorem dX6_turn_31 : decode cX6_turn 31 = .ok (.dup, 1) := by decide +kernel
theorem dX6_turn_32 : decode cX6_turn 32 = .ok (.getfield 23, 3) := by decide +kernel
theorem dX6_turn_35 : decode cX6_turn 35 = .ok (.iconst 1, 1) := by decide +kernel
theorem dX6_turn_36 : decode cX6_turn 36 = .ok (.iadd, 1) := by decide +kernel
theorem dX6_turn_37 : decode cX6_turn 37 = .ok (.putfield 23, 3) := by decide +kernel
theorem dX6_turn_40 : decode cX6_turn 40 = .ok (.return_, 1) := by decide +kernel
theorem dJ6_valueOf_2dffe_0 : decode cJ6_valueOf_2dffe 0 = .ok (.iload_n 0, 1) := by decide +kernel
theorem dJ6_valueOf_2dffe_1 : decode cJ6_valueOf_2dffe 1 = .ok (.bipush (-128), 2) := by decide +kernel
theorem dJ6_valueOf_2dffe_3 : decode cJ6_valueOf_2dffe 3 = .ok (.if_icmp .lt 20, 3) := by decide +kernel
theorem dJ6_valueOf_2dffe_6 : decode cJ6_valueOf_2dffe 6 = .ok (.iload_n 0, 1) := by decide +kernel
theorem dJ6_valueOf_2dffe_7 : decode cJ6_valueOf_2dffe 7 = .ok (.getstatic 191, 3) := by decide +kernel
theorem dJ6_valueOf_2dffe_10 : decode cJ6_valueOf_2dffe 10 = .ok (.if_icmp .gt 13, 3) := by decide +kernel
theorem dJ6_valueOf_2dffe_13 : decode cJ6_valueOf_2dffe 13 = .ok (.getstatic 195, 3) := by decide +kernel
theorem dJ6_valueOf_2dffe_16 : decode cJ6_valueOf_2dffe 16 = .ok (.iload_n 0, 1) := by decide +kernel
theorem dJ6_valueOf_2dffe_17 : decode cJ6_valueOf_2dffe 17 = .ok (.sipush 128, 3) := by decide +kernel
theorem dJ6_valueOf_2dffe_20 : decode cJ6_valueOf_2dffe 20 = .ok (.iadd, 1) := by decide +kernel
theorem dJ6_valueOf_2dffe_21 : decode cJ6_valueOf_2dffe 21 = .ok (.aaload, 1) := by decide +kernel
theorem dJ6_valueOf_2dffe_22 : decode cJ6_valueOf_2dffe 22 = .ok (.areturn, 1) := by decide +kernel
theorem dJ6_valueOf_2dffe_23 : decode cJ6_valueOf_2dffe 23 = .ok (.new 1, 3) := by decide +kernel
theorem dJ6_valueOf_2dffe_26 : decode cJ6_valueOf_2dffe 26 = .ok (.dup, 1) := by decide +kernel
theorem dJ6_valueOf_2dffe_27 : decode cJ6_valueOf_2dffe 27 = .ok (.iload_n 0, 1) := by decide +kernel
theorem dJ6_valueOf_2dffe_28 : decode cJ6_valueOf_2dffe 28 = .ok (.invokespecial 199, 3) := by decide +kernel
theorem dJ6_valueOf_2dffe_31 : decode cJ6_valueOf_2dffe 31 = .ok (.areturn, 1) := by decide +kernel
theorem dJ6_init_d00df_0 : decode cJ6_init_d00df 0 = .ok (.aload_n 0, 1) := by decide +kernel
theorem dJ6_init_d00df_1 : decode cJ6_init_d00df 1 = .ok (.invokespecial 202, 3) := by decide +kernel
theorem dJ6_init_d00df_4 : decode cJ6_init_d00df 4 = .ok (.aload_n 0, 1) := by decide +kernel
theorem dJ6_init_d00df_5 : decode cJ6_init_d00df 5 = .ok (.iload_n 1, 1) := by decide +kernel
theorem dJ6_init_d00df_6 : decode cJ6_init_d00df 6 = .ok (.putfield 205, 3) := by decide +kernel
theorem dJ6_init_d00df_9 : decode cJ6_init_d00df 9 = .ok (.return_, 1) := by decide +kernel
theorem dJ6_intValue_8abf5_0 : decode cJ6_intValue_8abf5 0 = .ok (.aload_n 0, 1) := by decide +kernel
theorem dJ6_intValue_8abf5_1 : decode cJ6_intValue_8abf5 1 = .ok (.getfield 205, 3) := by decide +kernel
theorem dJ6_intValue_8abf5_4 : decode cJ6_intValue_8abf5 4 = .ok (.ireturn, 1) := by decide +kernel
theorem dJ6_bitCount_0f7a4_0 : decode cJ6_bitCount_0f7a4 0 = .ok (.iload_n 0, 1) := by decide +kernel
theorem dJ6_bitCount_0f7a4_1 : decode cJ6_bitCount_0f7a4 1 = .ok (.iload_n 0, 1) := by decide +kernel
theorem dJ6_bitCount_0f7a4_2 : decode cJ6_bitCount_0f7a4 2 = .ok (.iconst 1, 1) := by decide +kernel
theorem dJ6_bitCount_0f7a4_3 : decode cJ6_bitCount_0f7a4 3 = .ok (.iushr, 1) := by decide +kernel
theorem dJ6_bitCount_0f7a4_4 : decode cJ6_bitCount_0f7a4 4 = .ok (.ldc_w 265, 3) := by decide +kernel
theorem dJ6_bitCount_0f7a4_7 : decode cJ6_bitCount_0f7a4 7 = .ok (.iand, 1) := by decide +kernel
theorem dJ6_bitCount_0f7a4_8 : decode cJ6_bitCount_0f7a4 8 = .ok (.isub, 1) := by decide +kernel
theorem dJ6_bitCount_0f7a4_9 : decode cJ6_bitCount_0f7a4 9 = .ok (.istore_n 0, 1) := by decide +kernel
theorem dJ6_bitCount_0f7a4_10 : decode cJ6_bitCount_0f7a4 10 = .ok (.iload_n 0, 1) := by decide +kernel
theorem dJ6_bitCount_0f7a4_11 : decode cJ6_bitCount_0f7a4 11 = .ok (.ldc_w 266, 3) := by decide +kernel
theorem dJ6_bitCount_0f7a4_14 : decode cJ6_bitCount_0f7a4 14 = .ok (.iand, 1) := by decide +kernel
theorem dJ6_bitCount_0f7a4_15 : decode cJ6_bitCount_0f7a4 15 = .ok (.iload_n 0, 1) := by decide +kernel
theorem dJ6_bitCount_0f7a4_16 : decode cJ6_bitCount_0f7a4 16 = .ok (.iconst 2, 1) := by decide +kernel
theorem dJ6_bitCount_0f7a4_17 : decode cJ6_bitCount_0f7a4 17 = .ok (.iushr, 1) := by decide +kernel
theorem dJ6_bitCount_0f7a4_18 : decode cJ6_bitCount_0f7a4 18 = .ok (.ldc_w 266, 3) := by decide +kernel
theorem dJ6_bitCount_0f7a4_21 : decode cJ6_bitCount_0f7a4 21 = .ok (.iand, 1) := by decide +kernel
theorem dJ6_bitCount_0f7a4_22 : decode cJ6_bitCount_0f7a4 22 = .ok (.iadd, 1) := by decide +kernel
theorem dJ6_bitCount_0f7a4_23 : decode cJ6_bitCount_0f7a4 23 = .ok (.istore_n 0, 1) := by decide +kernel
theorem dJ6_bitCount_0f7a4_24 : decode cJ6_bitCount_0f7a4 24 = .ok (.iload_n 0, 1) := by decide +kernel
theorem dJ6_bitCount_0f7a4_25 : decode cJ6_bitCount_0f7a4 25 = .ok (.iload_n 0, 1) := by decide +kernel
theorem dJ6_bitCount_0f7a4_26 : decode cJ6_bitCount_0f7a4 26 = .ok (.iconst 4, 1) := by decide +kernel
theorem dJ6_bitCount_0f7a4_27 : decode cJ6_bitCount_0f7a4 27 = .ok (.iushr, 1) := by decide +kernel
theorem dJ6_bitCount_0f7a4_28 : decode cJ6_bitCount_0f7a4 28 = .ok (.iadd, 1) := by decide +kernel
theorem dJ6_bitCount_0f7a4_29 : decode cJ6_bitCount_0f7a4 29 = .ok (.ldc_w 267, 3) := by decide +kernel
theorem dJ6_bitCount_0f7a4_32 : decode cJ6_bitCount_0f7a4 32 = .ok (.iand, 1) := by decide +kernel
theorem dJ6_bitCount_0f7a4_33 : decode cJ6_bitCount_0f7a4 33 = .ok (.istore_n 0, 1) := by decide +kernel
theorem dJ6_bitCount_0f7a4_34 : decode cJ6_bitCount_0f7a4 34 = .ok (.iload_n 0, 1) := by decide +kernel
theorem dJ6_bitCount_0f7a4_35 : decode cJ6_bitCount_0f7a4 35 = .ok (.iload_n 0, 1) := by decide +kernel
theorem dJ6_bitCount_0f7a4_36 : decode cJ6_bitCount_0f7a4 36 = .ok (.bipush 8, 2) := by decide +kernel
theorem dJ6_bitCount_0f7a4_38 : decode cJ6_bitCount_0f7a4 38 = .ok (.iushr, 1) := by decide +kernel
theorem dJ6_bitCount_0f7a4_39 : decode cJ6_bitCount_0f7a4 39 = .ok (.iadd, 1) := by decide +kernel
theorem dJ6_bitCount_0f7a4_40 : decode cJ6_bitCount_0f7a4 40 = .ok (.istore_n 0, 1) := by decide +kernel
theorem dJ6_bitCount_0f7a4_41 : decode cJ6_bitCount_0f7a4 41 = .ok (.iload_n 0, 1) := by decide +kernel
theorem dJ6_bitCount_0f7a4_42 : decode cJ6_bitCount_0f7a4 42 = .ok (.iload_n 0, 1) := by decide +kernel
theorem dJ6_bitCount_0f7a4_43 : decode cJ6_bitCount_0f7a4 43 = .ok (.bipush 16, 2) := by decide +kernel
theorem dJ6_bitCount_0f7a4_45 : decode cJ6_bitCount_0f7a4 45 = .ok (.iushr, 1) := by decide +kernel
theorem dJ6_bitCount_0f7a4_46 : decode cJ6_bitCount_0f7a4 46 = .ok (.iadd, 1) := by decide +kernel
theorem dJ6_bitCount_0f7a4_47 : decode cJ6_bitCount_0f7a4 47 = .ok (.istore_n 0, 1) := by decide +kernel
theorem dJ6_bitCount_0f7a4_48 : decode cJ6_bitCount_0f7a4 48 = .ok (.iload_n 0, 1) := by decide +kernel
theorem dJ6_bitCount_0f7a4_49 : decode cJ6_bitCount_0f7a4 49 = .ok (.bipush 63, 2) := by decide +kernel
theorem dJ6_bitCount_0f7a4_51 : decode cJ6_bitCount_0f7a4 51 = .ok (.iand, 1) := by decide +kernel
theorem dJ6_bitCount_0f7a4_52 : decode cJ6_bitCount_0f7a4 52 = .ok (.ireturn, 1) := by decide +kernel
