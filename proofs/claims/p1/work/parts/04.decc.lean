theorem dX8_init_0 : decode cX8_init 0 = .ok (.aload_n 0, 1) := by decide +kernel
theorem dX8_init_1 : decode cX8_init 1 = .ok (.invokespecial 3, 3) := by decide +kernel
theorem dX8_init_4 : decode cX8_init 4 = .ok (.aload_n 0, 1) := by decide +kernel
theorem dX8_init_5 : decode cX8_init 5 = .ok (.bipush 8, 2) := by decide +kernel
theorem dX8_init_7 : decode cX8_init 7 = .ok (.newarray .int, 2) := by decide +kernel
theorem dX8_init_9 : decode cX8_init 9 = .ok (.putfield 9, 3) := by decide +kernel
theorem dX8_init_12 : decode cX8_init 12 = .ok (.aload_n 0, 1) := by decide +kernel
theorem dX8_init_13 : decode cX8_init 13 = .ok (.iload_n 1, 1) := by decide +kernel
theorem dX8_init_14 : decode cX8_init 14 = .ok (.putfield 15, 3) := by decide +kernel
theorem dX8_init_17 : decode cX8_init 17 = .ok (.iconst 0, 1) := by decide +kernel
theorem dX8_init_18 : decode cX8_init 18 = .ok (.istore_n 3, 1) := by decide +kernel
theorem dX8_init_19 : decode cX8_init 19 = .ok (.iload_n 3, 1) := by decide +kernel
theorem dX8_init_20 : decode cX8_init 20 = .ok (.bipush 8, 2) := by decide +kernel
theorem dX8_init_22 : decode cX8_init 22 = .ok (.if_icmp .ge 33, 3) := by decide +kernel
theorem dX8_init_25 : decode cX8_init 25 = .ok (.aload_n 0, 1) := by decide +kernel
theorem dX8_init_26 : decode cX8_init 26 = .ok (.getfield 9, 3) := by decide +kernel
theorem dX8_init_29 : decode cX8_init 29 = .ok (.iload_n 3, 1) := by decide +kernel
theorem dX8_init_30 : decode cX8_init 30 = .ok (.bipush 7, 2) := by decide +kernel
theorem dX8_init_32 : decode cX8_init 32 = .ok (.iload_n 2, 1) := by decide +kernel
theorem dX8_init_33 : decode cX8_init 33 = .ok (.imul, 1) := by decide +kernel
theorem dX8_init_34 : decode cX8_init 34 = .ok (.iconst 5, 1) := by decide +kernel
theorem dX8_init_35 : decode cX8_init 35 = .ok (.iload_n 3, 1) := by decide +kernel
theorem dX8_init_36 : decode cX8_init 36 = .ok (.imul, 1) := by decide +kernel
theorem dX8_init_37 : decode cX8_init 37 = .ok (.iadd, 1) := by decide +kernel
theorem dX8_init_38 : decode cX8_init 38 = .ok (.iconst 3, 1) := by decide +kernel
theorem dX8_init_39 : decode cX8_init 39 = .ok (.iload_n 1, 1) := by decide +kernel
theorem dX8_init_40 : decode cX8_init 40 = .ok (.imul, 1) := by decide +kernel
theorem dX8_init_41 : decode cX8_init 41 = .ok (.iadd, 1) := by decide +kernel
theorem dX8_init_42 : decode cX8_init 42 = .ok (.bipush 31, 2) := by decide +kernel
theorem dX8_init_44 : decode cX8_init 44 = .ok (.irem, 1) := by decide +kernel
theorem dX8_init_45 : decode cX8_init 45 = .ok (.bipush 15, 2) := by decide +kernel
theorem dX8_init_47 : decode cX8_init 47 = .ok (.isub, 1) := by decide +kernel
theorem dX8_init_48 : decode cX8_init 48 = .ok (.iastore, 1) := by decide +kernel
theorem dX8_init_49 : decode cX8_init 49 = .ok (.iinc 3 1, 3) := by decide +kernel
theorem dX8_init_52 : decode cX8_init 52 = .ok (.goto (-33), 3) := by decide +kernel
theorem dX8_init_55 : decode cX8_init 55 = .ok (.return_, 1) := by decide +kernel
theorem dX8_init__0 : decode cX8_init_ 0 = .ok (.aload_n 0, 1) := by decide +kernel
theorem dX8_init__1 : decode cX8_init_ 1 = .ok (.invokespecial 3, 3) := by decide +kernel
theorem dX8_init__4 : decode cX8_init_ 4 = .ok (.aload_n 0, 1) := by decide +kernel
theorem dX8_init__5 : decode cX8_init_ 5 = .ok (.bipush 8, 2) := by decide +kernel
theorem dX8_init__7 : decode cX8_init_ 7 = .ok (.newarray .int, 2) := by decide +kernel
theorem dX8_init__9 : decode cX8_init_ 9 = .ok (.putfield 9, 3) := by decide +kernel
theorem dX8_init__12 : decode cX8_init_ 12 = .ok (.aload_n 0, 1) := by decide +kernel
theorem dX8_init__13 : decode cX8_init_ 13 = .ok (.aload_n 1, 1) := by decide +kernel
theorem dX8_init__14 : decode cX8_init_ 14 = .ok (.getfield 15, 3) := by decide +kernel
theorem dX8_init__17 : decode cX8_init_ 17 = .ok (.putfield 15, 3) := by decide +kernel
theorem dX8_init__20 : decode cX8_init_ 20 = .ok (.aload_n 1, 1) := by decide +kernel
theorem dX8_init__21 : decode cX8_init_ 21 = .ok (.getfield 9, 3) := by decide +kernel
theorem dX8_init__24 : decode cX8_init_ 24 = .ok (.iconst 0, 1) := by decide +kernel
theorem dX8_init__25 : decode cX8_init_ 25 = .ok (.aload_n 0, 1) := by decide +kernel
theorem dX8_init__26 : decode cX8_init_ 26 = .ok (.getfield 9, 3) := by decide +kernel
theorem dX8_init__29 : decode cX8_init_ 29 = .ok (.iconst 0, 1) := by decide +kernel
theorem dX8_init__30 : decode cX8_init_ 30 = .ok (.bipush 8, 2) := by decide +kernel
theorem dX8_init__32 : decode cX8_init_ 32 = .ok (.invokestatic 19, 3) := by decide +kernel
theorem dX8_init__35 : decode cX8_init_ 35 = .ok (.aload_n 0, 1) := by decide +kernel
theorem dX8_init__36 : decode cX8_init_ 36 = .ok (.aload_n 1, 1) := by decide +kernel
theorem dX8_init__37 : decode cX8_init_ 37 = .ok (.getfield 25, 3) := by decide +kernel
theorem dX8_init__40 : decode cX8_init_ 40 = .ok (.putfield 25, 3) := by decide +kernel
theorem dX8_init__43 : decode cX8_init_ 43 = .ok (.aload_n 0, 1) := by decide +kernel
theorem dX8_init__44 : decode cX8_init_ 44 = .ok (.aload_n 1, 1) := by decide +kernel
theorem dX8_init__45 : decode cX8_init_ 45 = .ok (.getfield 28, 3) := by decide +kernel
theorem dX8_init__48 : decode cX8_init_ 48 = .ok (.putfield 28, 3) := by decide +kernel
theorem dX8_init__51 : decode cX8_init_ 51 = .ok (.return_, 1) := by decide +kernel
theorem dX8_copy_0 : decode cX8_copy 0 = .ok (.new 10, 3) := by decide +kernel
theorem dX8_copy_3 : decode cX8_copy 3 = .ok (.dup, 1) := by decide +kernel
theorem dX8_copy_4 : decode cX8_copy 4 = .ok (.aload_n 0, 1) := by decide +kernel
theorem dX8_copy_5 : decode cX8_copy 5 = .ok (.invokespecial 32, 3) := by decide +kernel
theorem dX8_copy_8 : decode cX8_copy 8 = .ok (.areturn, 1) := by decide +kernel
theorem dX8_shift_0 : decode cX8_shift 0 = .ok (.aload_n 0, 1) := by decide +kernel
theorem dX8_shift_1 : decode cX8_shift 1 = .ok (.getfield 9, 3) := by decide +kernel
theorem dX8_shift_4 : decode cX8_shift 4 = .ok (.iload_n 1, 1) := by decide +kernel
theorem dX8_shift_5 : decode cX8_shift 5 = .ok (.aload_n 0, 1) := by decide +kernel
theorem dX8_shift_6 : decode cX8_shift 6 = .ok (.getfield 9, 3) := by decide +kernel
theorem dX8_shift_9 : decode cX8_shift 9 = .ok (.iload_n 1, 1) := by decide +kernel
theorem dX8_shift_10 : decode cX8_shift 10 = .ok (.iaload, 1) := by decide +kernel
theorem dX8_shift_11 : decode cX8_shift 11 = .ok (.iload_n 2, 1) := by decide +kernel
theorem dX8_shift_12 : decode cX8_shift 12 = .ok (.iadd, 1) := by decide +kernel
theorem dX8_shift_13 : decode cX8_shift 13 = .ok (.bipush (-99), 2) := by decide +kernel
theorem dX8_shift_15 : decode cX8_shift 15 = .ok (.bipush 99, 2) := by decide +kernel
theorem dX8_shift_17 : decode cX8_shift 17 = .ok (.invokestatic 35, 3) := by decide +kernel
theorem dX8_shift_20 : decode cX8_shift 20 = .ok (.iastore, 1) := by decide +kernel
theorem dX8_shift_21 : decode cX8_shift 21 = .ok (.return_, 1) := by decide +kernel
theorem dX8_tire_0 : decode cX8_tire 0 = .ok (.aload_n 0, 1) := by decide +kernel
theorem dX8_tire_1 : decode cX8_tire 1 = .ok (.dup, 1) := by decide +kernel
theorem dX8_tire_2 : decode cX8_tire 2 = .ok (.getfield 25, 3) := by decide +kernel
theorem dX8_tire_5 : decode cX8_tire 5 = .ok (.iload_n 1, 1) := by decide +kernel
theorem dX8_tire_6 : decode cX8_tire 6 = .ok (.iadd, 1) := by decide +kernel
theorem dX8_tire_7 : decode cX8_tire 7 = .ok (.putfield 25, 3) := by decide +kernel
theorem dX8_tire_10 : decode cX8_tire 10 = .ok (.aload_n 0, 1) := by decide +kernel
theorem dX8_tire_11 : decode cX8_tire 11 = .ok (.getfield 25, 3) := by decide +kernel
theorem dX8_tire_14 : decode cX8_tire 14 = .ok (.sipush 300, 3) := by decide +kernel
theorem dX8_tire_17 : decode cX8_tire 17 = .ok (.if_icmp .lt 8, 3) := by decide +kernel
theorem dX8_tire_20 : decode cX8_tire 20 = .ok (.aload_n 0, 1) := by decide +kernel
theorem dX8_tire_21 : decode cX8_tire 21 = .ok (.iconst 1, 1) := by decide +kernel
theorem dX8_tire_22 : decode cX8_tire 22 = .ok (.putfield 28, 3) := by decide +kernel
theorem dX8_tire_25 : decode cX8_tire 25 = .ok (.return_, 1) := by decide +kernel
theorem dX8_blow_0 : decode cX8_blow 0 = .ok (.aload_n 0, 1) := by decide +kernel
theorem dX8_blow_1 : decode cX8_blow 1 = .ok (.iload_n 1, 1) := by decide +kernel
theorem dX8_blow_2 : decode cX8_blow 2 = .ok (.iload_n 2, 1) := by decide +kernel
theorem dX8_blow_3 : decode cX8_blow 3 = .ok (.invokevirtual 39, 3) := by decide +kernel
theorem dX8_blow_6 : decode cX8_blow 6 = .ok (.aload_n 0, 1) := by decide +kernel
theorem dX8_blow_7 : decode cX8_blow 7 = .ok (.iload_n 1, 1) := by decide +kernel
theorem dX8_blow_8 : decode cX8_blow 8 = .ok (.iconst 1, 1) := by decide +kernel
theorem dX8_blow_9 : decode cX8_blow 9 = .ok (.iadd, 1) := by decide +kernel
theorem dX8_blow_10 : decode cX8_blow 10 = .ok (.bipush 8, 2) := by decide +kernel
theorem dX8_blow_12 : decode cX8_blow 12 = .ok (.irem, 1) := by decide +kernel
theorem dX8_blow_13 : decode cX8_blow 13 = .ok (.iload_n 2, 1) := by decide +kernel
theorem dX8_blow_14 : decode cX8_blow 14 = .ok (.iconst 4, 1) := by decide +kernel
theorem dX8_blow_15 : decode cX8_blow 15 = .ok (.idiv, 1) := by decide +kernel
theorem dX8_blow_16 : decode cX8_blow 16 = .ok (.ineg, 1) := by decide +kernel
theorem dX8_blow_17 : decode cX8_blow 17 = .ok (.invokevirtual 39, 3) := by decide +kernel
theorem dX8_blow_20 : decode cX8_blow 20 = .ok (.aload_n 0, 1) := by decide +kernel
theorem dX8_blow_21 : decode cX8_blow 21 = .ok (.iload_n 1, 1) := by decide +kernel
theorem dX8_blow_22 : decode cX8_blow 22 = .ok (.bipush 8, 2) := by decide +kernel
theorem dX8_blow_24 : decode cX8_blow 24 = .ok (.iadd, 1) := by decide +kernel
theorem dX8_blow_25 : decode cX8_blow 25 = .ok (.iconst 1, 1) := by decide +kernel
theorem dX8_blow_26 : decode cX8_blow 26 = .ok (.isub, 1) := by decide +kernel
theorem dX8_blow_27 : decode cX8_blow 27 = .ok (.bipush 8, 2) := by decide +kernel
theorem dX8_blow_29 : decode cX8_blow 29 = .ok (.irem, 1) := by decide +kernel
theorem dX8_blow_30 : decode cX8_blow 30 = .ok (.iload_n 2, 1) := by decide +kernel
theorem dX8_blow_31 : decode cX8_blow 31 = .ok (.iconst 4, 1) := by decide +kernel
theorem dX8_blow_32 : decode cX8_blow 32 = .ok (.idiv, 1) := by decide +kernel
theorem dX8_blow_33 : decode cX8_blow 33 = .ok (.ineg, 1) := by decide +kernel
theorem dX8_blow_34 : decode cX8_blow 34 = .ok (.invokevirtual 39, 3) := by decide +kernel
theorem dX8_blow_37 : decode cX8_blow 37 = .ok (.aload_n 0, 1) := by decide +kernel
theorem dX8_blow_38 : decode cX8_blow 38 = .ok (.dup, 1) := by decide +kernel
theorem dX8_blow_39 : decode cX8_blow 39 = .ok (.getfield 43, 3) := by decide +kernel
theorem dX8_blow_42 : decode cX8_blow 42 = .ok (.iconst 1, 1) := by decide +kernel
theorem dX8_blow_43 : decode cX8_blow 43 = .ok (.iadd, 1) := by decide +kernel
theorem dX8_blow_44 : decode cX8_blow 44 = .ok (.putfield 43, 3) := by decide +kernel
theorem dX8_blow_47 : decode cX8_blow 47 = .ok (.aload_n 0, 1) := by decide +kernel
theorem dX8_blow_48 : decode cX8_blow 48 = .ok (.iload_n 2, 1) := by decide +kernel
theorem dX8_blow_49 : decode cX8_blow 49 = .ok (.invokestatic 46, 3) := by decide +kernel
theorem dX8_blow_52 : decode cX8_blow 52 = .ok (.invokevirtual 52, 3) := by decide +kernel
theorem dX8_blow_55 : decode cX8_blow 55 = .ok (.return_, 1) := by decide +kernel
theorem dX8_burn_0 : decode cX8_burn 0 = .ok (.aload_n 0, 1) := by decide +kernel
theorem dX8_burn_1 : decode cX8_burn 1 = .ok (.dup, 1) := by decide +kernel
theorem dX8_burn_2 : decode cX8_burn 2 = .ok (.getfield 25, 3) := by decide +kernel
theorem dX8_burn_5 : decode cX8_burn 5 = .ok (.iconst 2, 1) := by decide +kernel
theorem dX8_burn_6 : decode cX8_burn 6 = .ok (.idiv, 1) := by decide +kernel
theorem dX8_burn_7 : decode cX8_burn 7 = .ok (.putfield 25, 3) := by decide +kernel
theorem dX8_burn_10 : decode cX8_burn 10 = .ok (.iconst 0, 1) := by decide +kernel
theorem dX8_burn_11 : decode cX8_burn 11 = .ok (.istore_n 1, 1) := by decide +kernel
theorem dX8_burn_12 : decode cX8_burn 12 = .ok (.iload_n 1, 1) := by decide +kernel
theorem dX8_burn_13 : decode cX8_burn 13 = .ok (.bipush 8, 2) := by decide +kernel
theorem dX8_burn_15 : decode cX8_burn 15 = .ok (.if_icmp .ge 26, 3) := by decide +kernel
theorem dX8_burn_18 : decode cX8_burn 18 = .ok (.aload_n 0, 1) := by decide +kernel
theorem dX8_burn_19 : decode cX8_burn 19 = .ok (.iload_n 1, 1) := by decide +kernel
theorem dX8_burn_20 : decode cX8_burn 20 = .ok (.iload_n 1, 1) := by decide +kernel
theorem dX8_burn_21 : decode cX8_burn 21 = .ok (.iconst 2, 1) := by decide +kernel
theorem dX8_burn_22 : decode cX8_burn 22 = .ok (.irem, 1) := by decide +kernel
theorem dX8_burn_23 : decode cX8_burn 23 = .ok (.ifCond .ne 7, 3) := by decide +kernel
theorem dX8_burn_26 : decode cX8_burn 26 = .ok (.iconst 3, 1) := by decide +kernel
theorem dX8_burn_27 : decode cX8_burn 27 = .ok (.goto 5, 3) := by decide +kernel
theorem dX8_burn_30 : decode cX8_burn 30 = .ok (.bipush (-3), 2) := by decide +kernel
theorem dX8_burn_32 : decode cX8_burn 32 = .ok (.invokevirtual 39, 3) := by decide +kernel
theorem dX8_burn_35 : decode cX8_burn 35 = .ok (.iinc 1 1, 3) := by decide +kernel
theorem dX8_burn_38 : decode cX8_burn 38 = .ok (.goto (-26), 3) := by decide +kernel
theorem dX8_burn_41 : decode cX8_burn 41 = .ok (.return_, 1) := by decide +kernel
theorem dX8_isInTune_0 : decode cX8_isInTune 0 = .ok (.aload_n 0, 1) := by decide +kernel
theorem dX8_isInTune_1 : decode cX8_isInTune 1 = .ok (.getfield 9, 3) := by decide +kernel
theorem dX8_isInTune_4 : decode cX8_isInTune 4 = .ok (.iload_n 1, 1) := by decide +kernel
theorem dX8_isInTune_5 : decode cX8_isInTune 5 = .ok (.iaload, 1) := by decide +kernel
theorem dX8_isInTune_6 : decode cX8_isInTune 6 = .ok (.invokestatic 46, 3) := by decide +kernel
theorem dX8_isInTune_9 : decode cX8_isInTune 9 = .ok (.bipush 6, 2) := by decide +kernel
theorem dX8_isInTune_11 : decode cX8_isInTune 11 = .ok (.iconst 2, 1) := by decide +kernel
theorem dX8_isInTune_12 : decode cX8_isInTune 12 = .ok (.aload_n 0, 1) := by decide +kernel
theorem dX8_isInTune_13 : decode cX8_isInTune 13 = .ok (.getfield 15, 3) := by decide +kernel
theorem dX8_isInTune_16 : decode cX8_isInTune 16 = .ok (.imul, 1) := by decide +kernel
theorem dX8_isInTune_17 : decode cX8_isInTune 17 = .ok (.iadd, 1) := by decide +kernel
theorem dX8_isInTune_18 : decode cX8_isInTune 18 = .ok (.if_icmp .gt 7, 3) := by decide +kernel
theorem dX8_isInTune_21 : decode cX8_isInTune 21 = .ok (.iconst 1, 1) := by decide +kernel
theorem dX8_isInTune_22 : decode cX8_isInTune 22 = .ok (.goto 4, 3) := by decide +kernel
theorem dX8_isInTune_25 : decode cX8_isInTune 25 = .ok (.iconst 0, 1) := by decide +kernel
theorem dX8_isInTune_26 : decode cX8_isInTune 26 = .ok (.ireturn, 1) := by decide +kernel
theorem dX8_inTune_0 : decode cX8_inTune 0 = .ok (.iconst 0, 1) := by decide +kernel
theorem dX8_inTune_1 : decode cX8_inTune 1 = .ok (.istore_n 2, 1) := by decide +kernel
theorem dX8_inTune_2 : decode cX8_inTune 2 = .ok (.iconst 0, 1) := by decide +kernel
theorem dX8_inTune_3 : decode cX8_inTune 3 = .ok (.istore_n 3, 1) := by decide +kernel
theorem dX8_inTune_4 : decode cX8_inTune 4 = .ok (.iload_n 3, 1) := by decide +kernel
theorem dX8_inTune_5 : decode cX8_inTune 5 = .ok (.bipush 8, 2) := by decide +kernel
theorem dX8_inTune_7 : decode cX8_inTune 7 = .ok (.if_icmp .ge 33, 3) := by decide +kernel
theorem dX8_inTune_10 : decode cX8_inTune 10 = .ok (.iload_n 2, 1) := by decide +kernel
theorem dX8_inTune_11 : decode cX8_inTune 11 = .ok (.iload_n 1, 1) := by decide +kernel
theorem dX8_inTune_12 : decode cX8_inTune 12 = .ok (.iload_n 3, 1) := by decide +kernel
theorem dX8_inTune_13 : decode cX8_inTune 13 = .ok (.invokestatic 56, 3) := by decide +kernel
theorem dX8_inTune_16 : decode cX8_inTune 16 = .ok (.ifCond .eq 15, 3) := by decide +kernel
theorem dX8_inTune_19 : decode cX8_inTune 19 = .ok (.aload_n 0, 1) := by decide +kernel
theorem dX8_inTune_20 : decode cX8_inTune 20 = .ok (.iload_n 3, 1) := by decide +kernel
theorem dX8_inTune_21 : decode cX8_inTune 21 = .ok (.invokevirtual 60, 3) := by decide +kernel
theorem dX8_inTune_24 : decode cX8_inTune 24 = .ok (.ifCond .eq 7, 3) := by decide +kernel
theorem dX8_inTune_27 : decode cX8_inTune 27 = .ok (.iconst 1, 1) := by decide +kernel
theorem dX8_inTune_28 : decode cX8_inTune 28 = .ok (.goto 4, 3) := by decide +kernel
theorem dX8_inTune_31 : decode cX8_inTune 31 = .ok (.iconst 0, 1) := by decide +kernel
theorem dX8_inTune_32 : decode cX8_inTune 32 = .ok (.iadd, 1) := by decide +kernel
theorem dX8_inTune_33 : decode cX8_inTune 33 = .ok (.istore_n 2, 1) := by decide +kernel
theorem dX8_inTune_34 : decode cX8_inTune 34 = .ok (.iinc 3 1, 3) := by decide +kernel
theorem dX8_inTune_37 : decode cX8_inTune 37 = .ok (.goto (-33), 3) := by decide +kernel
theorem dX8_inTune_40 : decode cX8_inTune 40 = .ok (.iload_n 2, 1) := by decide +kernel
theorem dX8_inTune_41 : decode cX8_inTune 41 = .ok (.ireturn, 1) := by decide +kernel
theorem dX8_grade_0 : decode cX8_grade 0 = .ok (.aload_n 0, 1) := by decide +kernel
theorem dX8_grade_1 : decode cX8_grade 1 = .ok (.getfield 28, 3) := by decide +kernel
theorem dX8_grade_4 : decode cX8_grade 4 = .ok (.ifCond .eq 7, 3) := by decide +kernel
theorem dX8_grade_7 : decode cX8_grade 7 = .ok (.iconst 0, 1) := by decide +kernel
theorem dX8_grade_8 : decode cX8_grade 8 = .ok (.goto 10, 3) := by decide +kernel
theorem dX8_grade_11 : decode cX8_grade 11 = .ok (.aload_n 0, 1) := by decide +kernel
theorem dX8_grade_12 : decode cX8_grade 12 = .ok (.sipush 255, 3) := by decide +kernel
theorem dX8_grade_15 : decode cX8_grade 15 = .ok (.invokevirtual 64, 3) := by decide +kernel
theorem dX8_grade_18 : decode cX8_grade 18 = .ok (.ireturn, 1) := by decide +kernel
theorem dX8_tune_0 : decode cX8_tune 0 = .ok (.iconst 0, 1) := by decide +kernel
theorem dX8_tune_1 : decode cX8_tune 1 = .ok (.istore_n 2, 1) := by decide +kernel
theorem dX8_tune_2 : decode cX8_tune 2 = .ok (.iload_n 2, 1) := by decide +kernel
theorem dX8_tune_3 : decode cX8_tune 3 = .ok (.iload_n 1, 1) := by decide +kernel
theorem dX8_tune_4 : decode cX8_tune 4 = .ok (.if_icmp .ge 90, 3) := by decide +kernel
theorem dX8_tune_7 : decode cX8_tune 7 = .ok (.aload_n 0, 1) := by decide +kernel
theorem dX8_tune_8 : decode cX8_tune 8 = .ok (.getfield 28, 3) := by decide +kernel
theorem dX8_tune_11 : decode cX8_tune 11 = .ok (.ifCond .ne 83, 3) := by decide +kernel
theorem dX8_tune_14 : decode cX8_tune 14 = .ok (.aload_n 0, 1) := by decide +kernel
theorem dX8_tune_15 : decode cX8_tune 15 = .ok (.sipush 255, 3) := by decide +kernel
theorem dX8_tune_18 : decode cX8_tune 18 = .ok (.invokevirtual 64, 3) := by decide +kernel
theorem dX8_tune_21 : decode cX8_tune 21 = .ok (.bipush 8, 2) := by decide +kernel
theorem dX8_tune_23 : decode cX8_tune 23 = .ok (.if_icmp .ge 71, 3) := by decide +kernel
theorem dX8_tune_26 : decode cX8_tune 26 = .ok (.iconst 0, 1) := by decide +kernel
theorem dX8_tune_27 : decode cX8_tune 27 = .ok (.istore_n 3, 1) := by decide +kernel
theorem dX8_tune_28 : decode cX8_tune 28 = .ok (.iconst 1, 1) := by decide +kernel
theorem dX8_tune_29 : decode cX8_tune 29 = .ok (.istore 4, 2) := by decide +kernel
theorem dX8_tune_31 : decode cX8_tune 31 = .ok (.iload 4, 2) := by decide +kernel
theorem dX8_tune_33 : decode cX8_tune 33 = .ok (.bipush 8, 2) := by decide +kernel
theorem dX8_tune_35 : decode cX8_tune 35 = .ok (.if_icmp .ge 34, 3) := by decide +kernel
theorem dX8_tune_38 : decode cX8_tune 38 = .ok (.aload_n 0, 1) := by decide +kernel
theorem dX8_tune_39 : decode cX8_tune 39 = .ok (.getfield 9, 3) := by decide +kernel
theorem dX8_tune_42 : decode cX8_tune 42 = .ok (.iload 4, 2) := by decide +kernel
theorem dX8_tune_44 : decode cX8_tune 44 = .ok (.iaload, 1) := by decide +kernel
theorem dX8_tune_45 : decode cX8_tune 45 = .ok (.invokestatic 46, 3) := by decide +kernel
theorem dX8_tune_48 : decode cX8_tune 48 = .ok (.aload_n 0, 1) := by decide +kernel
theorem dX8_tune_49 : decode cX8_tune 49 = .ok (.getfield 9, 3) := by decide +kernel
theorem dX8_tune_52 : decode cX8_tune 52 = .ok (.iload_n 3, 1) := by decide +kernel
theorem dX8_tune_53 : decode cX8_tune 53 = .ok (.iaload, 1) := by decide +kernel
theorem dX8_tune_54 : decode cX8_tune 54 = .ok (.invokestatic 46, 3) := by decide +kernel
theorem dX8_tune_57 : decode cX8_tune 57 = .ok (.if_icmp .le 6, 3) := by decide +kernel
theorem dX8_tune_60 : decode cX8_tune 60 = .ok (.iload 4, 2) := by decide +kernel
theorem dX8_tune_62 : decode cX8_tune 62 = .ok (.istore_n 3, 1) := by decide +kernel
theorem dX8_tune_63 : decode cX8_tune 63 = .ok (.iinc 4 1, 3) := by decide +kernel
theorem dX8_tune_66 : decode cX8_tune 66 = .ok (.goto (-35), 3) := by decide +kernel
theorem dX8_tune_69 : decode cX8_tune 69 = .ok (.aload_n 0, 1) := by decide +kernel
theorem dX8_tune_70 : decode cX8_tune 70 = .ok (.iload_n 3, 1) := by decide +kernel
theorem dX8_tune_71 : decode cX8_tune 71 = .ok (.aload_n 0, 1) := by decide +kernel
theorem dX8_tune_72 : decode cX8_tune 72 = .ok (.getfield 9, 3) := by decide +kernel
theorem dX8_tune_75 : decode cX8_tune 75 = .ok (.iload_n 3, 1) := by decide +kernel
theorem dX8_tune_76 : decode cX8_tune 76 = .ok (.iaload, 1) := by decide +kernel
theorem dX8_tune_77 : decode cX8_tune 77 = .ok (.ineg, 1) := by decide +kernel
theorem dX8_tune_78 : decode cX8_tune 78 = .ok (.bipush (-20), 2) := by decide +kernel
theorem dX8_tune_80 : decode cX8_tune 80 = .ok (.bipush 20, 2) := by decide +kernel
theorem dX8_tune_82 : decode cX8_tune 82 = .ok (.invokestatic 35, 3) := by decide +kernel
theorem dX8_tune_85 : decode cX8_tune 85 = .ok (.invokevirtual 67, 3) := by decide +kernel
theorem dX8_tune_88 : decode cX8_tune 88 = .ok (.iinc 2 1, 3) := by decide +kernel
theorem dX8_tune_91 : decode cX8_tune 91 = .ok (.goto (-89), 3) := by decide +kernel
theorem dX8_tune_94 : decode cX8_tune 94 = .ok (.iload_n 2, 1) := by decide +kernel
theorem dX8_tune_95 : decode cX8_tune 95 = .ok (.ireturn, 1) := by decide +kernel
theorem dX9_init_0 : decode cX9_init 0 = .ok (.aload_n 0, 1) := by decide +kernel
theorem dX9_init_1 : decode cX9_init 1 = .ok (.invokespecial 1, 3) := by decide +kernel
theorem dX9_init_4 : decode cX9_init 4 = .ok (.aload_n 0, 1) := by decide +kernel
theorem dX9_init_5 : decode cX9_init 5 = .ok (.iload_n 1, 1) := by decide +kernel
theorem dX9_init_6 : decode cX9_init 6 = .ok (.putfield 7, 3) := by decide +kernel
theorem dX9_init_9 : decode cX9_init 9 = .ok (.aload_n 0, 1) := by decide +kernel
theorem dX9_init_10 : decode cX9_init 10 = .ok (.iload_n 2, 1) := by decide +kernel
theorem dX9_init_11 : decode cX9_init 11 = .ok (.putfield 13, 3) := by decide +kernel
theorem dX9_init_14 : decode cX9_init 14 = .ok (.aload_n 0, 1) := by decide +kernel
theorem dX9_init_15 : decode cX9_init 15 = .ok (.iload_n 3, 1) := by decide +kernel
theorem dX9_init_16 : decode cX9_init 16 = .ok (.putfield 16, 3) := by decide +kernel
theorem dX9_init_19 : decode cX9_init 19 = .ok (.return_, 1) := by decide +kernel
theorem dX9_many_0 : decode cX9_many 0 = .ok (.aload_n 0, 1) := by decide +kernel
theorem dX9_many_1 : decode cX9_many 1 = .ok (.getfield 16, 3) := by decide +kernel
theorem dX9_many_4 : decode cX9_many 4 = .ok (.invokestatic 19, 3) := by decide +kernel
theorem dX9_many_7 : decode cX9_many 7 = .ok (.ireturn, 1) := by decide +kernel
theorem dX10_init_0 : decode cX10_init 0 = .ok (.aload_n 0, 1) := by decide +kernel
theorem dX10_init_1 : decode cX10_init 1 = .ok (.invokespecial 3, 3) := by decide +kernel
theorem dX10_init_4 : decode cX10_init 4 = .ok (.aload_n 0, 1) := by decide +kernel
theorem dX10_init_5 : decode cX10_init 5 = .ok (.iconst (-1), 1) := by decide +kernel
theorem dX10_init_6 : decode cX10_init 6 = .ok (.putfield 9, 3) := by decide +kernel
theorem dX10_init_9 : decode cX10_init 9 = .ok (.aload_n 0, 1) := by decide +kernel
theorem dX10_init_10 : decode cX10_init 10 = .ok (.bipush 8, 2) := by decide +kernel
theorem dX10_init_12 : decode cX10_init 12 = .ok (.newarray .int, 2) := by decide +kernel
theorem dX10_init_14 : decode cX10_init 14 = .ok (.putfield 15, 3) := by decide +kernel
theorem dX10_init_17 : decode cX10_init 17 = .ok (.aload_n 0, 1) := by decide +kernel
theorem dX10_init_18 : decode cX10_init 18 = .ok (.bipush 8, 2) := by decide +kernel
theorem dX10_init_20 : decode cX10_init 20 = .ok (.newarray .boolean, 2) := by decide +kernel
theorem dX10_init_22 : decode cX10_init 22 = .ok (.putfield 19, 3) := by decide +kernel
theorem dX10_init_25 : decode cX10_init 25 = .ok (.aload_n 0, 1) := by decide +kernel
theorem dX10_init_26 : decode cX10_init 26 = .ok (.iload_n 1, 1) := by decide +kernel
theorem dX10_init_27 : decode cX10_init 27 = .ok (.putfield 23, 3) := by decide +kernel
theorem dX10_init_30 : decode cX10_init 30 = .ok (.aload_n 0, 1) := by decide +kernel
theorem dX10_init_31 : decode cX10_init 31 = .ok (.iload_n 2, 1) := by decide +kernel
theorem dX10_init_32 : decode cX10_init 32 = .ok (.putfield 26, 3) := by decide +kernel
theorem dX10_init_35 : decode cX10_init 35 = .ok (.aload_n 0, 1) := by decide +kernel
theorem dX10_init_36 : decode cX10_init 36 = .ok (.iload_n 3, 1) := by decide +kernel
theorem dX10_init_37 : decode cX10_init 37 = .ok (.putfield 29, 3) := by decide +kernel
theorem dX10_init_40 : decode cX10_init 40 = .ok (.return_, 1) := by decide +kernel
theorem dX10_most_0 : decode cX10_most 0 = .ok (.aload_n 1, 1) := by decide +kernel
theorem dX10_most_1 : decode cX10_most 1 = .ok (.invokevirtual 32, 3) := by decide +kernel
theorem dX10_most_4 : decode cX10_most 4 = .ok (.aload_n 0, 1) := by decide +kernel
theorem dX10_most_5 : decode cX10_most 5 = .ok (.getfield 29, 3) := by decide +kernel
theorem dX10_most_8 : decode cX10_most 8 = .ok (.if_icmp .le 8, 3) := by decide +kernel
theorem dX10_most_11 : decode cX10_most 11 = .ok (.bipush 70, 2) := by decide +kernel
theorem dX10_most_13 : decode cX10_most 13 = .ok (.goto 5, 3) := by decide +kernel
theorem dX10_most_16 : decode cX10_most 16 = .ok (.bipush 100, 2) := by decide +kernel
theorem dX10_most_18 : decode cX10_most 18 = .ok (.ireturn, 1) := by decide +kernel
theorem dX11_isIn_0 : decode cX11_isIn 0 = .ok (.iload_n 0, 1) := by decide +kernel
theorem dX11_isIn_1 : decode cX11_isIn 1 = .ok (.iload_n 1, 1) := by decide +kernel
theorem dX11_isIn_2 : decode cX11_isIn 2 = .ok (.if_icmp .lt 12, 3) := by decide +kernel
theorem dX11_isIn_5 : decode cX11_isIn 5 = .ok (.iload_n 0, 1) := by decide +kernel
theorem dX11_isIn_6 : decode cX11_isIn 6 = .ok (.iload_n 2, 1) := by decide +kernel
theorem dX11_isIn_7 : decode cX11_isIn 7 = .ok (.if_icmp .gt 7, 3) := by decide +kernel
theorem dX11_isIn_10 : decode cX11_isIn 10 = .ok (.iconst 1, 1) := by decide +kernel
theorem dX11_isIn_11 : decode cX11_isIn 11 = .ok (.goto 4, 3) := by decide +kernel
theorem dX11_isIn_14 : decode cX11_isIn 14 = .ok (.iconst 0, 1) := by decide +kernel
theorem dX11_isIn_15 : decode cX11_isIn 15 = .ok (.ireturn, 1) := by decide +kernel
theorem dX11_held_0 : decode cX11_held 0 = .ok (.iload_n 1, 1) := by decide +kernel
theorem dX11_held_1 : decode cX11_held 1 = .ok (.iload_n 2, 1) := by decide +kernel
theorem dX11_held_2 : decode cX11_held 2 = .ok (.iload_n 0, 1) := by decide +kernel
theorem dX11_held_3 : decode cX11_held 3 = .ok (.invokestatic 1, 3) := by decide +kernel
theorem dX11_held_6 : decode cX11_held 6 = .ok (.invokestatic 7, 3) := by decide +kernel
theorem dX11_held_9 : decode cX11_held 9 = .ok (.ireturn, 1) := by decide +kernel
theorem dX11_has_0 : decode cX11_has 0 = .ok (.iload_n 0, 1) := by decide +kernel
theorem dX11_has_1 : decode cX11_has 1 = .ok (.iload_n 1, 1) := by decide +kernel
theorem dX11_has_2 : decode cX11_has 2 = .ok (.ishr, 1) := by decide +kernel
theorem dX11_has_3 : decode cX11_has 3 = .ok (.iconst 1, 1) := by decide +kernel
theorem dX11_has_4 : decode cX11_has 4 = .ok (.iand, 1) := by decide +kernel
theorem dX11_has_5 : decode cX11_has 5 = .ok (.iconst 1, 1) := by decide +kernel
theorem dX11_has_6 : decode cX11_has 6 = .ok (.if_icmp .ne 7, 3) := by decide +kernel
theorem dX11_has_9 : decode cX11_has 9 = .ok (.iconst 1, 1) := by decide +kernel
theorem dX11_has_10 : decode cX11_has 10 = .ok (.goto 4, 3) := by decide +kernel
theorem dX11_has_13 : decode cX11_has 13 = .ok (.iconst 0, 1) := by decide +kernel
theorem dX11_has_14 : decode cX11_has 14 = .ok (.ireturn, 1) := by decide +kernel
theorem dX11_init_0 : decode cX11_init 0 = .ok (.aload_n 0, 1) := by decide +kernel
theorem dX11_init_1 : decode cX11_init 1 = .ok (.invokespecial 10, 3) := by decide +kernel
theorem dX11_init_4 : decode cX11_init 4 = .ok (.aload_n 0, 1) := by decide +kernel
theorem dX11_init_5 : decode cX11_init 5 = .ok (.new 16, 3) := by decide +kernel
theorem dX11_init_8 : decode cX11_init 8 = .ok (.dup, 1) := by decide +kernel
theorem dX11_init_9 : decode cX11_init 9 = .ok (.invokespecial 18, 3) := by decide +kernel
theorem dX11_init_12 : decode cX11_init 12 = .ok (.putfield 19, 3) := by decide +kernel
theorem dX11_init_15 : decode cX11_init 15 = .ok (.aload_n 0, 1) := by decide +kernel
theorem dX11_init_16 : decode cX11_init 16 = .ok (.new 16, 3) := by decide +kernel
theorem dX11_init_19 : decode cX11_init 19 = .ok (.dup, 1) := by decide +kernel
theorem dX11_init_20 : decode cX11_init 20 = .ok (.invokespecial 18, 3) := by decide +kernel
theorem dX11_init_23 : decode cX11_init 23 = .ok (.putfield 25, 3) := by decide +kernel
theorem dX11_init_26 : decode cX11_init 26 = .ok (.aload_n 0, 1) := by decide +kernel
theorem dX11_init_27 : decode cX11_init 27 = .ok (.new 16, 3) := by decide +kernel
theorem dX11_init_30 : decode cX11_init 30 = .ok (.dup, 1) := by decide +kernel
theorem dX11_init_31 : decode cX11_init 31 = .ok (.invokespecial 18, 3) := by decide +kernel
theorem dX11_init_34 : decode cX11_init 34 = .ok (.putfield 28, 3) := by decide +kernel
theorem dX11_init_37 : decode cX11_init 37 = .ok (.aload_n 0, 1) := by decide +kernel
theorem dX11_init_38 : decode cX11_init 38 = .ok (.new 16, 3) := by decide +kernel
theorem dX11_init_41 : decode cX11_init 41 = .ok (.dup, 1) := by decide +kernel
theorem dX11_init_42 : decode cX11_init 42 = .ok (.invokespecial 18, 3) := by decide +kernel
theorem dX11_init_45 : decode cX11_init 45 = .ok (.putfield 31, 3) := by decide +kernel
theorem dX11_init_48 : decode cX11_init 48 = .ok (.aload_n 0, 1) := by decide +kernel
theorem dX11_init_49 : decode cX11_init 49 = .ok (.new 16, 3) := by decide +kernel
theorem dX11_init_52 : decode cX11_init 52 = .ok (.dup, 1) := by decide +kernel
theorem dX11_init_53 : decode cX11_init 53 = .ok (.invokespecial 18, 3) := by decide +kernel
theorem dX11_init_56 : decode cX11_init 56 = .ok (.putfield 34, 3) := by decide +kernel
theorem dX11_init_59 : decode cX11_init 59 = .ok (.aload_n 0, 1) := by decide +kernel
theorem dX11_init_60 : decode cX11_init 60 = .ok (.iconst 4, 1) := by decide +kernel
theorem dX11_init_61 : decode cX11_init 61 = .ok (.newarray .int, 2) := by decide +kernel
theorem dX11_init_63 : decode cX11_init 63 = .ok (.putfield 37, 3) := by decide +kernel
theorem dX11_init_66 : decode cX11_init 66 = .ok (.aload_n 0, 1) := by decide +kernel
theorem dX11_init_67 : decode cX11_init 67 = .ok (.iconst 3, 1) := by decide +kernel
theorem dX11_init_68 : decode cX11_init 68 = .ok (.newarray .int, 2) := by decide +kernel
theorem dX11_init_70 : decode cX11_init 70 = .ok (.putfield 41, 3) := by decide +kernel
theorem dX11_init_73 : decode cX11_init 73 = .ok (.aload_n 0, 1) := by decide +kernel
theorem dX11_init_74 : decode cX11_init 74 = .ok (.iconst 3, 1) := by decide +kernel
theorem dX11_init_75 : decode cX11_init 75 = .ok (.anewarray 44, 3) := by decide +kernel
theorem dX11_init_78 : decode cX11_init 78 = .ok (.dup, 1) := by decide +kernel
theorem dX11_init_79 : decode cX11_init 79 = .ok (.iconst 0, 1) := by decide +kernel
theorem dX11_init_80 : decode cX11_init 80 = .ok (.iconst 2, 1) := by decide +kernel
theorem dX11_init_81 : decode cX11_init 81 = .ok (.newarray .int, 2) := by decide +kernel
theorem dX11_init_83 : decode cX11_init 83 = .ok (.dup, 1) := by decide +kernel
theorem dX11_init_84 : decode cX11_init 84 = .ok (.iconst 0, 1) := by decide +kernel
theorem dX11_init_85 : decode cX11_init 85 = .ok (.iconst (-1), 1) := by decide +kernel
theorem dX11_init_86 : decode cX11_init 86 = .ok (.iastore, 1) := by decide +kernel
theorem dX11_init_87 : decode cX11_init 87 = .ok (.dup, 1) := by decide +kernel
theorem dX11_init_88 : decode cX11_init 88 = .ok (.iconst 1, 1) := by decide +kernel
theorem dX11_init_89 : decode cX11_init 89 = .ok (.iconst (-1), 1) := by decide +kernel
theorem dX11_init_90 : decode cX11_init 90 = .ok (.iastore, 1) := by decide +kernel
theorem dX11_init_91 : decode cX11_init 91 = .ok (.aastore, 1) := by decide +kernel
theorem dX11_init_92 : decode cX11_init 92 = .ok (.dup, 1) := by decide +kernel
theorem dX11_init_93 : decode cX11_init 93 = .ok (.iconst 1, 1) := by decide +kernel
theorem dX11_init_94 : decode cX11_init 94 = .ok (.iconst 2, 1) := by decide +kernel
theorem dX11_init_95 : decode cX11_init 95 = .ok (.newarray .int, 2) := by decide +kernel
theorem dX11_init_97 : decode cX11_init 97 = .ok (.dup, 1) := by decide +kernel
theorem dX11_init_98 : decode cX11_init 98 = .ok (.iconst 0, 1) := by decide +kernel
theorem dX11_init_99 : decode cX11_init 99 = .ok (.iconst (-1), 1) := by decide +kernel
theorem dX11_init_100 : decode cX11_init 100 = .ok (.iastore, 1) := by decide +kernel
theorem dX11_init_101 : decode cX11_init 101 = .ok (.dup, 1) := by decide +kernel
theorem dX11_init_102 : decode cX11_init 102 = .ok (.iconst 1, 1) := by decide +kernel
theorem dX11_init_103 : decode cX11_init 103 = .ok (.iconst (-1), 1) := by decide +kernel
theorem dX11_init_104 : decode cX11_init 104 = .ok (.iastore, 1) := by decide +kernel
theorem dX11_init_105 : decode cX11_init 105 = .ok (.aastore, 1) := by decide +kernel
theorem dX11_init_106 : decode cX11_init 106 = .ok (.dup, 1) := by decide +kernel
theorem dX11_init_107 : decode cX11_init 107 = .ok (.iconst 2, 1) := by decide +kernel
theorem dX11_init_108 : decode cX11_init 108 = .ok (.iconst 2, 1) := by decide +kernel
theorem dX11_init_109 : decode cX11_init 109 = .ok (.newarray .int, 2) := by decide +kernel
theorem dX11_init_111 : decode cX11_init 111 = .ok (.dup, 1) := by decide +kernel
theorem dX11_init_112 : decode cX11_init 112 = .ok (.iconst 0, 1) := by decide +kernel
theorem dX11_init_113 : decode cX11_init 113 = .ok (.iconst (-1), 1) := by decide +kernel
theorem dX11_init_114 : decode cX11_init 114 = .ok (.iastore, 1) := by decide +kernel
theorem dX11_init_115 : decode cX11_init 115 = .ok (.dup, 1) := by decide +kernel
theorem dX11_init_116 : decode cX11_init 116 = .ok (.iconst 1, 1) := by decide +kernel
theorem dX11_init_117 : decode cX11_init 117 = .ok (.iconst (-1), 1) := by decide +kernel
theorem dX11_init_118 : decode cX11_init 118 = .ok (.iastore, 1) := by decide +kernel
theorem dX11_init_119 : decode cX11_init 119 = .ok (.aastore, 1) := by decide +kernel
theorem dX11_init_120 : decode cX11_init 120 = .ok (.putfield 45, 3) := by decide +kernel
theorem dX11_init_123 : decode cX11_init 123 = .ok (.aload_n 0, 1) := by decide +kernel
theorem dX11_init_124 : decode cX11_init 124 = .ok (.sipush 200, 3) := by decide +kernel
theorem dX11_init_127 : decode cX11_init 127 = .ok (.putfield 49, 3) := by decide +kernel
theorem dX11_init_130 : decode cX11_init 130 = .ok (.aload_n 0, 1) := by decide +kernel
theorem dX11_init_131 : decode cX11_init 131 = .ok (.iconst (-1), 1) := by decide +kernel
theorem dX11_init_132 : decode cX11_init 132 = .ok (.putfield 53, 3) := by decide +kernel
theorem dX11_init_135 : decode cX11_init 135 = .ok (.return_, 1) := by decide +kernel
theorem dX11_thrown_0 : decode cX11_thrown 0 = .ok (.aload_n 0, 1) := by decide +kernel
theorem dX11_thrown_1 : decode cX11_thrown 1 = .ok (.getfield 56, 3) := by decide +kernel
theorem dX11_thrown_4 : decode cX11_thrown 4 = .ok (.ireturn, 1) := by decide +kernel
theorem dX11_refuse_0 : decode cX11_refuse 0 = .ok (.iload_n 1, 1) := by decide +kernel
theorem dX11_refuse_1 : decode cX11_refuse 1 = .ok (.ifCond .eq 15, 3) := by decide +kernel
theorem dX11_refuse_4 : decode cX11_refuse 4 = .ok (.aload_n 0, 1) := by decide +kernel
theorem dX11_refuse_5 : decode cX11_refuse 5 = .ok (.getfield 56, 3) := by decide +kernel
theorem dX11_refuse_8 : decode cX11_refuse 8 = .ok (.ifCond .ne 8, 3) := by decide +kernel
theorem dX11_refuse_11 : decode cX11_refuse 11 = .ok (.aload_n 0, 1) := by decide +kernel
theorem dX11_refuse_12 : decode cX11_refuse 12 = .ok (.iload_n 2, 1) := by decide +kernel
theorem dX11_refuse_13 : decode cX11_refuse 13 = .ok (.putfield 56, 3) := by decide +kernel
theorem dX11_refuse_16 : decode cX11_refuse 16 = .ok (.aload_n 0, 1) := by decide +kernel
theorem dX11_refuse_17 : decode cX11_refuse 17 = .ok (.getfield 56, 3) := by decide +kernel
theorem dX11_refuse_20 : decode cX11_refuse 20 = .ok (.ifCond .le 7, 3) := by decide +kernel
theorem dX11_refuse_23 : decode cX11_refuse 23 = .ok (.iconst 1, 1) := by decide +kernel
theorem dX11_refuse_24 : decode cX11_refuse 24 = .ok (.goto 4, 3) := by decide +kernel
theorem dX11_refuse_27 : decode cX11_refuse 27 = .ok (.iconst 0, 1) := by decide +kernel
theorem dX11_refuse_28 : decode cX11_refuse 28 = .ok (.ireturn, 1) := by decide +kernel
theorem dX11_start_0 : decode cX11_start 0 = .ok (.aload_n 0, 1) := by decide +kernel
theorem dX11_start_1 : decode cX11_start 1 = .ok (.iconst 0, 1) := by decide +kernel
theorem dX11_start_2 : decode cX11_start 2 = .ok (.putfield 56, 3) := by decide +kernel
theorem dX11_start_5 : decode cX11_start 5 = .ok (.aload_n 0, 1) := by decide +kernel
theorem dX11_start_6 : decode cX11_start 6 = .ok (.iload_n 1, 1) := by decide +kernel
theorem dX11_start_7 : decode cX11_start 7 = .ok (.iload_n 2, 1) := by decide +kernel
theorem dX11_start_8 : decode cX11_start 8 = .ok (.invokevirtual 59, 3) := by decide +kernel
theorem dX11_start_11 : decode cX11_start 11 = .ok (.ireturn, 1) := by decide +kernel
theorem dX11_isNoFamily_0 : decode cX11_isNoFamily 0 = .ok (.iload_n 0, 1) := by decide +kernel
theorem dX11_isNoFamily_1 : decode cX11_isNoFamily 1 = .ok (.iconst 0, 1) := by decide +kernel
theorem dX11_isNoFamily_2 : decode cX11_isNoFamily 2 = .ok (.iconst 3, 1) := by decide +kernel
theorem dX11_isNoFamily_3 : decode cX11_isNoFamily 3 = .ok (.invokestatic 63, 3) := by decide +kernel
theorem dX11_isNoFamily_6 : decode cX11_isNoFamily 6 = .ok (.ifCond .ne 7, 3) := by decide +kernel
theorem dX11_isNoFamily_9 : decode cX11_isNoFamily 9 = .ok (.iconst 1, 1) := by decide +kernel
theorem dX11_isNoFamily_10 : decode cX11_isNoFamily 10 = .ok (.goto 4, 3) := by decide +kernel
theorem dX11_isNoFamily_13 : decode cX11_isNoFamily 13 = .ok (.iconst 0, 1) := by decide +kernel
theorem dX11_isNoFamily_14 : decode cX11_isNoFamily 14 = .ok (.ireturn, 1) := by decide +kernel
theorem dX11_isNoPan_0 : decode cX11_isNoPan 0 = .ok (.iload_n 1, 1) := by decide +kernel
theorem dX11_isNoPan_1 : decode cX11_isNoPan 1 = .ok (.iconst 0, 1) := by decide +kernel
theorem dX11_isNoPan_2 : decode cX11_isNoPan 2 = .ok (.aload_n 0, 1) := by decide +kernel
theorem dX11_isNoPan_3 : decode cX11_isNoPan 3 = .ok (.getfield 19, 3) := by decide +kernel
theorem dX11_isNoPan_6 : decode cX11_isNoPan 6 = .ok (.invokevirtual 67, 3) := by decide +kernel
theorem dX11_isNoPan_9 : decode cX11_isNoPan 9 = .ok (.iconst 1, 1) := by decide +kernel
theorem dX11_isNoPan_10 : decode cX11_isNoPan 10 = .ok (.isub, 1) := by decide +kernel
theorem dX11_isNoPan_11 : decode cX11_isNoPan 11 = .ok (.invokestatic 63, 3) := by decide +kernel
theorem dX11_isNoPan_14 : decode cX11_isNoPan 14 = .ok (.ifCond .ne 7, 3) := by decide +kernel
theorem dX11_isNoPan_17 : decode cX11_isNoPan 17 = .ok (.iconst 1, 1) := by decide +kernel
theorem dX11_isNoPan_18 : decode cX11_isNoPan 18 = .ok (.goto 4, 3) := by decide +kernel
theorem dX11_isNoPan_21 : decode cX11_isNoPan 21 = .ok (.iconst 0, 1) := by decide +kernel
theorem dX11_isNoPan_22 : decode cX11_isNoPan 22 = .ok (.ireturn, 1) := by decide +kernel
theorem dX11_isNoPhrase_0 : decode cX11_isNoPhrase 0 = .ok (.iload_n 1, 1) := by decide +kernel
theorem dX11_isNoPhrase_1 : decode cX11_isNoPhrase 1 = .ok (.iconst 0, 1) := by decide +kernel
theorem dX11_isNoPhrase_2 : decode cX11_isNoPhrase 2 = .ok (.aload_n 0, 1) := by decide +kernel
theorem dX11_isNoPhrase_3 : decode cX11_isNoPhrase 3 = .ok (.getfield 25, 3) := by decide +kernel
theorem dX11_isNoPhrase_6 : decode cX11_isNoPhrase 6 = .ok (.invokevirtual 67, 3) := by decide +kernel
theorem dX11_isNoPhrase_9 : decode cX11_isNoPhrase 9 = .ok (.iconst 1, 1) := by decide +kernel
theorem dX11_isNoPhrase_10 : decode cX11_isNoPhrase 10 = .ok (.isub, 1) := by decide +kernel
theorem dX11_isNoPhrase_11 : decode cX11_isNoPhrase 11 = .ok (.invokestatic 63, 3) := by decide +kernel
theorem dX11_isNoPhrase_14 : decode cX11_isNoPhrase 14 = .ok (.ifCond .ne 7, 3) := by decide +kernel
theorem dX11_isNoPhrase_17 : decode cX11_isNoPhrase 17 = .ok (.iconst 1, 1) := by decide +kernel
theorem dX11_isNoPhrase_18 : decode cX11_isNoPhrase 18 = .ok (.goto 4, 3) := by decide +kernel
theorem dX11_isNoPhrase_21 : decode cX11_isNoPhrase 21 = .ok (.iconst 0, 1) := by decide +kernel
theorem dX11_isNoPhrase_22 : decode cX11_isNoPhrase 22 = .ok (.ireturn, 1) := by decide +kernel
theorem dX11_isNoPlayer_0 : decode cX11_isNoPlayer 0 = .ok (.iload_n 1, 1) := by decide +kernel
theorem dX11_isNoPlayer_1 : decode cX11_isNoPlayer 1 = .ok (.iconst 0, 1) := by decide +kernel
theorem dX11_isNoPlayer_2 : decode cX11_isNoPlayer 2 = .ok (.aload_n 0, 1) := by decide +kernel
theorem dX11_isNoPlayer_3 : decode cX11_isNoPlayer 3 = .ok (.getfield 31, 3) := by decide +kernel
theorem dX11_isNoPlayer_6 : decode cX11_isNoPlayer 6 = .ok (.invokevirtual 67, 3) := by decide +kernel
theorem dX11_isNoPlayer_9 : decode cX11_isNoPlayer 9 = .ok (.iconst 1, 1) := by decide +kernel
theorem dX11_isNoPlayer_10 : decode cX11_isNoPlayer 10 = .ok (.isub, 1) := by decide +kernel
theorem dX11_isNoPlayer_11 : decode cX11_isNoPlayer 11 = .ok (.invokestatic 63, 3) := by decide +kernel
theorem dX11_isNoPlayer_14 : decode cX11_isNoPlayer 14 = .ok (.ifCond .ne 7, 3) := by decide +kernel
theorem dX11_isNoPlayer_17 : decode cX11_isNoPlayer 17 = .ok (.iconst 1, 1) := by decide +kernel
theorem dX11_isNoPlayer_18 : decode cX11_isNoPlayer 18 = .ok (.goto 4, 3) := by decide +kernel
theorem dX11_isNoPlayer_21 : decode cX11_isNoPlayer 21 = .ok (.iconst 0, 1) := by decide +kernel
theorem dX11_isNoPlayer_22 : decode cX11_isNoPlayer 22 = .ok (.ireturn, 1) := by decide +kernel
theorem dX11_pan_0 : decode cX11_pan 0 = .ok (.aload_n 0, 1) := by decide +kernel
theorem dX11_pan_1 : decode cX11_pan 1 = .ok (.iload_n 1, 1) := by decide +kernel
theorem dX11_pan_2 : decode cX11_pan 2 = .ok (.invokestatic 71, 3) := by decide +kernel
theorem dX11_pan_5 : decode cX11_pan 5 = .ok (.iconst 1, 1) := by decide +kernel
theorem dX11_pan_6 : decode cX11_pan 6 = .ok (.invokevirtual 75, 3) := by decide +kernel
theorem dX11_pan_9 : decode cX11_pan 9 = .ok (.ifCond .ne 28, 3) := by decide +kernel
theorem dX11_pan_12 : decode cX11_pan 12 = .ok (.aload_n 0, 1) := by decide +kernel
theorem dX11_pan_13 : decode cX11_pan 13 = .ok (.aload_n 0, 1) := by decide +kernel
theorem dX11_pan_14 : decode cX11_pan 14 = .ok (.getfield 19, 3) := by decide +kernel
theorem dX11_pan_17 : decode cX11_pan 17 = .ok (.invokevirtual 67, 3) := by decide +kernel
theorem dX11_pan_20 : decode cX11_pan 20 = .ok (.bipush 6, 2) := by decide +kernel
theorem dX11_pan_22 : decode cX11_pan 22 = .ok (.if_icmp .ne 7, 3) := by decide +kernel
theorem dX11_pan_25 : decode cX11_pan 25 = .ok (.iconst 1, 1) := by decide +kernel
theorem dX11_pan_26 : decode cX11_pan 26 = .ok (.goto 4, 3) := by decide +kernel
theorem dX11_pan_29 : decode cX11_pan 29 = .ok (.iconst 0, 1) := by decide +kernel
theorem dX11_pan_30 : decode cX11_pan 30 = .ok (.iconst 2, 1) := by decide +kernel
theorem dX11_pan_31 : decode cX11_pan 31 = .ok (.invokevirtual 59, 3) := by decide +kernel
theorem dX11_pan_34 : decode cX11_pan 34 = .ok (.ifCond .eq 5, 3) := by decide +kernel
theorem dX11_pan_37 : decode cX11_pan 37 = .ok (.iconst 0, 1) := by decide +kernel
theorem dX11_pan_38 : decode cX11_pan 38 = .ok (.ireturn, 1) := by decide +kernel
theorem dX11_pan_39 : decode cX11_pan 39 = .ok (.aload_n 0, 1) := by decide +kernel
theorem dX11_pan_40 : decode cX11_pan 40 = .ok (.getfield 19, 3) := by decide +kernel
theorem dX11_pan_43 : decode cX11_pan 43 = .ok (.new 78, 3) := by decide +kernel
theorem dX11_pan_46 : decode cX11_pan 46 = .ok (.dup, 1) := by decide +kernel
theorem dX11_pan_47 : decode cX11_pan 47 = .ok (.iload_n 1, 1) := by decide +kernel
theorem dX11_pan_48 : decode cX11_pan 48 = .ok (.aload_n 0, 1) := by decide +kernel
theorem dX11_pan_49 : decode cX11_pan 49 = .ok (.getfield 19, 3) := by decide +kernel
theorem dX11_pan_52 : decode cX11_pan 52 = .ok (.invokevirtual 67, 3) := by decide +kernel
theorem dX11_pan_55 : decode cX11_pan 55 = .ok (.invokespecial 80, 3) := by decide +kernel
theorem dX11_pan_58 : decode cX11_pan 58 = .ok (.invokevirtual 83, 3) := by decide +kernel
theorem dX11_pan_61 : decode cX11_pan 61 = .ok (.pop, 1) := by decide +kernel
theorem dX11_pan_62 : decode cX11_pan 62 = .ok (.aload_n 0, 1) := by decide +kernel
theorem dX11_pan_63 : decode cX11_pan 63 = .ok (.dup, 1) := by decide +kernel
theorem dX11_pan_64 : decode cX11_pan 64 = .ok (.getfield 49, 3) := by decide +kernel
theorem dX11_pan_67 : decode cX11_pan 67 = .ok (.bipush 40, 2) := by decide +kernel
theorem dX11_pan_69 : decode cX11_pan 69 = .ok (.isub, 1) := by decide +kernel
theorem dX11_pan_70 : decode cX11_pan 70 = .ok (.putfield 49, 3) := by decide +kernel
theorem dX11_pan_73 : decode cX11_pan 73 = .ok (.aload_n 0, 1) := by decide +kernel
theorem dX11_pan_74 : decode cX11_pan 74 = .ok (.getfield 19, 3) := by decide +kernel
theorem dX11_pan_77 : decode cX11_pan 77 = .ok (.invokevirtual 67, 3) := by decide +kernel
theorem dX11_pan_80 : decode cX11_pan 80 = .ok (.iconst 1, 1) := by decide +kernel
theorem dX11_pan_81 : decode cX11_pan 81 = .ok (.isub, 1) := by decide +kernel
theorem dX11_pan_82 : decode cX11_pan 82 = .ok (.ireturn, 1) := by decide +kernel
theorem dX11_blow_0 : decode cX11_blow 0 = .ok (.aload_n 0, 1) := by decide +kernel
theorem dX11_blow_1 : decode cX11_blow 1 = .ok (.aload_n 0, 1) := by decide +kernel
theorem dX11_blow_2 : decode cX11_blow 2 = .ok (.iload_n 1, 1) := by decide +kernel
theorem dX11_blow_3 : decode cX11_blow 3 = .ok (.invokevirtual 87, 3) := by decide +kernel
theorem dX11_blow_6 : decode cX11_blow 6 = .ok (.ifCond .ne 13, 3) := by decide +kernel
theorem dX11_blow_9 : decode cX11_blow 9 = .ok (.iload_n 2, 1) := by decide +kernel
theorem dX11_blow_10 : decode cX11_blow 10 = .ok (.iconst 0, 1) := by decide +kernel
theorem dX11_blow_11 : decode cX11_blow 11 = .ok (.bipush 7, 2) := by decide +kernel
theorem dX11_blow_13 : decode cX11_blow 13 = .ok (.invokestatic 63, 3) := by decide +kernel
theorem dX11_blow_16 : decode cX11_blow 16 = .ok (.ifCond .ne 7, 3) := by decide +kernel
theorem dX11_blow_19 : decode cX11_blow 19 = .ok (.iconst 1, 1) := by decide +kernel
theorem dX11_blow_20 : decode cX11_blow 20 = .ok (.goto 4, 3) := by decide +kernel
theorem dX11_blow_23 : decode cX11_blow 23 = .ok (.iconst 0, 1) := by decide +kernel
theorem dX11_blow_24 : decode cX11_blow 24 = .ok (.iconst 1, 1) := by decide +kernel
theorem dX11_blow_25 : decode cX11_blow 25 = .ok (.invokevirtual 75, 3) := by decide +kernel
theorem dX11_blow_28 : decode cX11_blow 28 = .ok (.ifCond .ne 53, 3) := by decide +kernel
theorem dX11_blow_31 : decode cX11_blow 31 = .ok (.aload_n 0, 1) := by decide +kernel
theorem dX11_blow_32 : decode cX11_blow 32 = .ok (.iload_n 3, 1) := by decide +kernel
theorem dX11_blow_33 : decode cX11_blow 33 = .ok (.bipush (-20), 2) := by decide +kernel
theorem dX11_blow_35 : decode cX11_blow 35 = .ok (.bipush 20, 2) := by decide +kernel
theorem dX11_blow_37 : decode cX11_blow 37 = .ok (.invokestatic 63, 3) := by decide +kernel
theorem dX11_blow_40 : decode cX11_blow 40 = .ok (.ifCond .eq 7, 3) := by decide +kernel
theorem dX11_blow_43 : decode cX11_blow 43 = .ok (.iload_n 3, 1) := by decide +kernel
theorem dX11_blow_44 : decode cX11_blow 44 = .ok (.ifCond .ne 7, 3) := by decide +kernel
theorem dX11_blow_47 : decode cX11_blow 47 = .ok (.iconst 1, 1) := by decide +kernel
theorem dX11_blow_48 : decode cX11_blow 48 = .ok (.goto 4, 3) := by decide +kernel
theorem dX11_blow_51 : decode cX11_blow 51 = .ok (.iconst 0, 1) := by decide +kernel
theorem dX11_blow_52 : decode cX11_blow 52 = .ok (.iconst 2, 1) := by decide +kernel
theorem dX11_blow_53 : decode cX11_blow 53 = .ok (.invokevirtual 59, 3) := by decide +kernel
theorem dX11_blow_56 : decode cX11_blow 56 = .ok (.ifCond .ne 25, 3) := by decide +kernel
theorem dX11_blow_59 : decode cX11_blow 59 = .ok (.aload_n 0, 1) := by decide +kernel
theorem dX11_blow_60 : decode cX11_blow 60 = .ok (.aload_n 0, 1) := by decide +kernel
theorem dX11_blow_61 : decode cX11_blow 61 = .ok (.getfield 19, 3) := by decide +kernel
theorem dX11_blow_64 : decode cX11_blow 64 = .ok (.iload_n 1, 1) := by decide +kernel
theorem dX11_blow_65 : decode cX11_blow 65 = .ok (.invokevirtual 90, 3) := by decide +kernel
theorem dX11_blow_68 : decode cX11_blow 68 = .ok (.checkcast 78, 3) := by decide +kernel
theorem dX11_blow_71 : decode cX11_blow 71 = .ok (.getfield 94, 3) := by decide +kernel
theorem dX11_blow_74 : decode cX11_blow 74 = .ok (.iconst 3, 1) := by decide +kernel
theorem dX11_blow_75 : decode cX11_blow 75 = .ok (.invokevirtual 59, 3) := by decide +kernel
theorem dX11_blow_78 : decode cX11_blow 78 = .ok (.ifCond .eq 5, 3) := by decide +kernel
theorem dX11_blow_81 : decode cX11_blow 81 = .ok (.iconst 0, 1) := by decide +kernel
theorem dX11_blow_82 : decode cX11_blow 82 = .ok (.ireturn, 1) := by decide +kernel
theorem dX11_blow_83 : decode cX11_blow 83 = .ok (.aload_n 0, 1) := by decide +kernel
theorem dX11_blow_84 : decode cX11_blow 84 = .ok (.getfield 19, 3) := by decide +kernel
theorem dX11_blow_87 : decode cX11_blow 87 = .ok (.iload_n 1, 1) := by decide +kernel
theorem dX11_blow_88 : decode cX11_blow 88 = .ok (.invokevirtual 90, 3) := by decide +kernel
theorem dX11_blow_91 : decode cX11_blow 91 = .ok (.checkcast 78, 3) := by decide +kernel
theorem dX11_blow_94 : decode cX11_blow 94 = .ok (.iload_n 2, 1) := by decide +kernel
theorem dX11_blow_95 : decode cX11_blow 95 = .ok (.iload_n 3, 1) := by decide +kernel
theorem dX11_blow_96 : decode cX11_blow 96 = .ok (.invokevirtual 98, 3) := by decide +kernel
theorem dX11_blow_99 : decode cX11_blow 99 = .ok (.aload_n 0, 1) := by decide +kernel
theorem dX11_blow_100 : decode cX11_blow 100 = .ok (.getfield 19, 3) := by decide +kernel
theorem dX11_blow_103 : decode cX11_blow 103 = .ok (.iload_n 1, 1) := by decide +kernel
theorem dX11_blow_104 : decode cX11_blow 104 = .ok (.invokevirtual 90, 3) := by decide +kernel
theorem dX11_blow_107 : decode cX11_blow 107 = .ok (.checkcast 78, 3) := by decide +kernel
theorem dX11_blow_110 : decode cX11_blow 110 = .ok (.getfield 101, 3) := by decide +kernel
theorem dX11_blow_113 : decode cX11_blow 113 = .ok (.iload_n 2, 1) := by decide +kernel
theorem dX11_blow_114 : decode cX11_blow 114 = .ok (.iaload, 1) := by decide +kernel
theorem dX11_blow_115 : decode cX11_blow 115 = .ok (.ireturn, 1) := by decide +kernel
theorem dX11_burn_0 : decode cX11_burn 0 = .ok (.aload_n 0, 1) := by decide +kernel
theorem dX11_burn_1 : decode cX11_burn 1 = .ok (.aload_n 0, 1) := by decide +kernel
theorem dX11_burn_2 : decode cX11_burn 2 = .ok (.iload_n 1, 1) := by decide +kernel
theorem dX11_burn_3 : decode cX11_burn 3 = .ok (.invokevirtual 87, 3) := by decide +kernel
theorem dX11_burn_6 : decode cX11_burn 6 = .ok (.iconst 1, 1) := by decide +kernel
theorem dX11_burn_7 : decode cX11_burn 7 = .ok (.invokevirtual 75, 3) := by decide +kernel
theorem dX11_burn_10 : decode cX11_burn 10 = .ok (.ifCond .ne 25, 3) := by decide +kernel
theorem dX11_burn_13 : decode cX11_burn 13 = .ok (.aload_n 0, 1) := by decide +kernel
theorem dX11_burn_14 : decode cX11_burn 14 = .ok (.aload_n 0, 1) := by decide +kernel
theorem dX11_burn_15 : decode cX11_burn 15 = .ok (.getfield 19, 3) := by decide +kernel
theorem dX11_burn_18 : decode cX11_burn 18 = .ok (.iload_n 1, 1) := by decide +kernel
theorem dX11_burn_19 : decode cX11_burn 19 = .ok (.invokevirtual 90, 3) := by decide +kernel
theorem dX11_burn_22 : decode cX11_burn 22 = .ok (.checkcast 78, 3) := by decide +kernel
theorem dX11_burn_25 : decode cX11_burn 25 = .ok (.getfield 94, 3) := by decide +kernel
theorem dX11_burn_28 : decode cX11_burn 28 = .ok (.iconst 2, 1) := by decide +kernel
theorem dX11_burn_29 : decode cX11_burn 29 = .ok (.invokevirtual 59, 3) := by decide +kernel
theorem dX11_burn_32 : decode cX11_burn 32 = .ok (.ifCond .eq 5, 3) := by decide +kernel
theorem dX11_burn_35 : decode cX11_burn 35 = .ok (.iconst 0, 1) := by decide +kernel
theorem dX11_burn_36 : decode cX11_burn 36 = .ok (.ireturn, 1) := by decide +kernel
theorem dX11_burn_37 : decode cX11_burn 37 = .ok (.aload_n 0, 1) := by decide +kernel
theorem dX11_burn_38 : decode cX11_burn 38 = .ok (.getfield 19, 3) := by decide +kernel
theorem dX11_burn_41 : decode cX11_burn 41 = .ok (.iload_n 1, 1) := by decide +kernel
theorem dX11_burn_42 : decode cX11_burn 42 = .ok (.invokevirtual 90, 3) := by decide +kernel
theorem dX11_burn_45 : decode cX11_burn 45 = .ok (.checkcast 78, 3) := by decide +kernel
theorem dX11_burn_48 : decode cX11_burn 48 = .ok (.invokevirtual 104, 3) := by decide +kernel
theorem dX11_burn_51 : decode cX11_burn 51 = .ok (.aload_n 0, 1) := by decide +kernel
theorem dX11_burn_52 : decode cX11_burn 52 = .ok (.dup, 1) := by decide +kernel
theorem dX11_burn_53 : decode cX11_burn 53 = .ok (.getfield 49, 3) := by decide +kernel
theorem dX11_burn_56 : decode cX11_burn 56 = .ok (.iconst 5, 1) := by decide +kernel
theorem dX11_burn_57 : decode cX11_burn 57 = .ok (.isub, 1) := by decide +kernel
theorem dX11_burn_58 : decode cX11_burn 58 = .ok (.putfield 49, 3) := by decide +kernel
theorem dX11_burn_61 : decode cX11_burn 61 = .ok (.aload_n 0, 1) := by decide +kernel
theorem dX11_burn_62 : decode cX11_burn 62 = .ok (.getfield 19, 3) := by decide +kernel
theorem dX11_burn_65 : decode cX11_burn 65 = .ok (.iload_n 1, 1) := by decide +kernel
theorem dX11_burn_66 : decode cX11_burn 66 = .ok (.invokevirtual 90, 3) := by decide +kernel
theorem dX11_burn_69 : decode cX11_burn 69 = .ok (.checkcast 78, 3) := by decide +kernel
theorem dX11_burn_72 : decode cX11_burn 72 = .ok (.getfield 107, 3) := by decide +kernel
theorem dX11_burn_75 : decode cX11_burn 75 = .ok (.ireturn, 1) := by decide +kernel
theorem dX11_tuner_0 : decode cX11_tuner 0 = .ok (.aload_n 0, 1) := by decide +kernel
theorem dX11_tuner_1 : decode cX11_tuner 1 = .ok (.aload_n 0, 1) := by decide +kernel
theorem dX11_tuner_2 : decode cX11_tuner 2 = .ok (.iload_n 1, 1) := by decide +kernel
theorem dX11_tuner_3 : decode cX11_tuner 3 = .ok (.invokevirtual 87, 3) := by decide +kernel
theorem dX11_tuner_6 : decode cX11_tuner 6 = .ok (.iconst 1, 1) := by decide +kernel
theorem dX11_tuner_7 : decode cX11_tuner 7 = .ok (.invokevirtual 75, 3) := by decide +kernel
theorem dX11_tuner_10 : decode cX11_tuner 10 = .ok (.ifCond .ne 49, 3) := by decide +kernel
theorem dX11_tuner_13 : decode cX11_tuner 13 = .ok (.aload_n 0, 1) := by decide +kernel
theorem dX11_tuner_14 : decode cX11_tuner 14 = .ok (.iload_n 2, 1) := by decide +kernel
theorem dX11_tuner_15 : decode cX11_tuner 15 = .ok (.bipush 10, 2) := by decide +kernel
theorem dX11_tuner_17 : decode cX11_tuner 17 = .ok (.bipush 120, 2) := by decide +kernel
theorem dX11_tuner_19 : decode cX11_tuner 19 = .ok (.invokestatic 63, 3) := by decide +kernel
theorem dX11_tuner_22 : decode cX11_tuner 22 = .ok (.ifCond .ne 7, 3) := by decide +kernel
theorem dX11_tuner_25 : decode cX11_tuner 25 = .ok (.iconst 1, 1) := by decide +kernel
theorem dX11_tuner_26 : decode cX11_tuner 26 = .ok (.goto 4, 3) := by decide +kernel
theorem dX11_tuner_29 : decode cX11_tuner 29 = .ok (.iconst 0, 1) := by decide +kernel
theorem dX11_tuner_30 : decode cX11_tuner 30 = .ok (.iconst 2, 1) := by decide +kernel
theorem dX11_tuner_31 : decode cX11_tuner 31 = .ok (.invokevirtual 59, 3) := by decide +kernel
theorem dX11_tuner_34 : decode cX11_tuner 34 = .ok (.ifCond .ne 25, 3) := by decide +kernel
theorem dX11_tuner_37 : decode cX11_tuner 37 = .ok (.aload_n 0, 1) := by decide +kernel
theorem dX11_tuner_38 : decode cX11_tuner 38 = .ok (.aload_n 0, 1) := by decide +kernel
theorem dX11_tuner_39 : decode cX11_tuner 39 = .ok (.getfield 19, 3) := by decide +kernel
theorem dX11_tuner_42 : decode cX11_tuner 42 = .ok (.iload_n 1, 1) := by decide +kernel
theorem dX11_tuner_43 : decode cX11_tuner 43 = .ok (.invokevirtual 90, 3) := by decide +kernel
theorem dX11_tuner_46 : decode cX11_tuner 46 = .ok (.checkcast 78, 3) := by decide +kernel
theorem dX11_tuner_49 : decode cX11_tuner 49 = .ok (.getfield 94, 3) := by decide +kernel
theorem dX11_tuner_52 : decode cX11_tuner 52 = .ok (.iconst 3, 1) := by decide +kernel
theorem dX11_tuner_53 : decode cX11_tuner 53 = .ok (.invokevirtual 59, 3) := by decide +kernel
theorem dX11_tuner_56 : decode cX11_tuner 56 = .ok (.ifCond .eq 5, 3) := by decide +kernel
theorem dX11_tuner_59 : decode cX11_tuner 59 = .ok (.iconst 0, 1) := by decide +kernel
theorem dX11_tuner_60 : decode cX11_tuner 60 = .ok (.ireturn, 1) := by decide +kernel
theorem dX11_tuner_61 : decode cX11_tuner 61 = .ok (.aload_n 0, 1) := by decide +kernel
theorem dX11_tuner_62 : decode cX11_tuner 62 = .ok (.getfield 19, 3) := by decide +kernel
theorem dX11_tuner_65 : decode cX11_tuner 65 = .ok (.iload_n 1, 1) := by decide +kernel
theorem dX11_tuner_66 : decode cX11_tuner 66 = .ok (.invokevirtual 90, 3) := by decide +kernel
theorem dX11_tuner_69 : decode cX11_tuner 69 = .ok (.checkcast 78, 3) := by decide +kernel
theorem dX11_tuner_72 : decode cX11_tuner 72 = .ok (.iload_n 2, 1) := by decide +kernel
theorem dX11_tuner_73 : decode cX11_tuner 73 = .ok (.bipush 10, 2) := by decide +kernel
theorem dX11_tuner_75 : decode cX11_tuner 75 = .ok (.idiv, 1) := by decide +kernel
theorem dX11_tuner_76 : decode cX11_tuner 76 = .ok (.invokevirtual 110, 3) := by decide +kernel
theorem dX11_tuner_79 : decode cX11_tuner 79 = .ok (.istore_n 3, 1) := by decide +kernel
theorem dX11_tuner_80 : decode cX11_tuner 80 = .ok (.aload_n 0, 1) := by decide +kernel
theorem dX11_tuner_81 : decode cX11_tuner 81 = .ok (.dup, 1) := by decide +kernel
theorem dX11_tuner_82 : decode cX11_tuner 82 = .ok (.getfield 49, 3) := by decide +kernel
theorem dX11_tuner_85 : decode cX11_tuner 85 = .ok (.iconst 4, 1) := by decide +kernel
theorem dX11_tuner_86 : decode cX11_tuner 86 = .ok (.iload_n 3, 1) := by decide +kernel
theorem dX11_tuner_87 : decode cX11_tuner 87 = .ok (.imul, 1) := by decide +kernel
theorem dX11_tuner_88 : decode cX11_tuner 88 = .ok (.isub, 1) := by decide +kernel
theorem dX11_tuner_89 : decode cX11_tuner 89 = .ok (.putfield 49, 3) := by decide +kernel
theorem dX11_tuner_92 : decode cX11_tuner 92 = .ok (.iload_n 3, 1) := by decide +kernel
theorem dX11_tuner_93 : decode cX11_tuner 93 = .ok (.ireturn, 1) := by decide +kernel
theorem dX11_cover_0 : decode cX11_cover 0 = .ok (.aload_n 0, 1) := by decide +kernel
theorem dX11_cover_1 : decode cX11_cover 1 = .ok (.iconst 0, 1) := by decide +kernel
theorem dX11_cover_2 : decode cX11_cover 2 = .ok (.putfield 56, 3) := by decide +kernel
theorem dX11_cover_5 : decode cX11_cover 5 = .ok (.aload_n 0, 1) := by decide +kernel
theorem dX11_cover_6 : decode cX11_cover 6 = .ok (.getfield 114, 3) := by decide +kernel
theorem dX11_cover_9 : decode cX11_cover 9 = .ok (.istore_n 2, 1) := by decide +kernel
theorem dX11_cover_10 : decode cX11_cover 10 = .ok (.aload_n 0, 1) := by decide +kernel
theorem dX11_cover_11 : decode cX11_cover 11 = .ok (.iload_n 1, 1) := by decide +kernel
theorem dX11_cover_12 : decode cX11_cover 12 = .ok (.putfield 114, 3) := by decide +kernel
theorem dX11_cover_15 : decode cX11_cover 15 = .ok (.iload_n 2, 1) := by decide +kernel
theorem dX11_cover_16 : decode cX11_cover 16 = .ok (.ireturn, 1) := by decide +kernel
theorem dX11_isNoTold_0 : decode cX11_isNoTold 0 = .ok (.iload_n 0, 1) := by decide +kernel
theorem dX11_isNoTold_1 : decode cX11_isNoTold 1 = .ok (.iconst 1, 1) := by decide +kernel
theorem dX11_isNoTold_2 : decode cX11_isNoTold 2 = .ok (.bipush 9, 2) := by decide +kernel
theorem dX11_isNoTold_4 : decode cX11_isNoTold 4 = .ok (.invokestatic 63, 3) := by decide +kernel
theorem dX11_isNoTold_7 : decode cX11_isNoTold 7 = .ok (.ifCond .eq 14, 3) := by decide +kernel
theorem dX11_isNoTold_10 : decode cX11_isNoTold 10 = .ok (.iload_n 1, 1) := by decide +kernel
theorem dX11_isNoTold_11 : decode cX11_isNoTold 11 = .ok (.iconst 1, 1) := by decide +kernel
theorem dX11_isNoTold_12 : decode cX11_isNoTold 12 = .ok (.sipush 255, 3) := by decide +kernel
theorem dX11_isNoTold_15 : decode cX11_isNoTold 15 = .ok (.invokestatic 63, 3) := by decide +kernel
theorem dX11_isNoTold_18 : decode cX11_isNoTold 18 = .ok (.ifCond .ne 7, 3) := by decide +kernel
theorem dX11_isNoTold_21 : decode cX11_isNoTold 21 = .ok (.iconst 1, 1) := by decide +kernel
theorem dX11_isNoTold_22 : decode cX11_isNoTold 22 = .ok (.goto 4, 3) := by decide +kernel
theorem dX11_isNoTold_25 : decode cX11_isNoTold 25 = .ok (.iconst 0, 1) := by decide +kernel
theorem dX11_isNoTold_26 : decode cX11_isNoTold 26 = .ok (.ireturn, 1) := by decide +kernel
theorem dX11_phrase_0 : decode cX11_phrase 0 = .ok (.aload_n 0, 1) := by decide +kernel
theorem dX11_phrase_1 : decode cX11_phrase 1 = .ok (.iload_n 1, 1) := by decide +kernel
theorem dX11_phrase_2 : decode cX11_phrase 2 = .ok (.invokestatic 71, 3) := by decide +kernel
theorem dX11_phrase_5 : decode cX11_phrase 5 = .ok (.iconst 1, 1) := by decide +kernel
theorem dX11_phrase_6 : decode cX11_phrase 6 = .ok (.invokevirtual 75, 3) := by decide +kernel
theorem dX11_phrase_9 : decode cX11_phrase 9 = .ok (.ifCond .ne 41, 3) := by decide +kernel
theorem dX11_phrase_12 : decode cX11_phrase 12 = .ok (.aload_n 0, 1) := by decide +kernel
theorem dX11_phrase_13 : decode cX11_phrase 13 = .ok (.iload_n 2, 1) := by decide +kernel
theorem dX11_phrase_14 : decode cX11_phrase 14 = .ok (.iload_n 3, 1) := by decide +kernel
theorem dX11_phrase_15 : decode cX11_phrase 15 = .ok (.invokestatic 117, 3) := by decide +kernel
theorem dX11_phrase_18 : decode cX11_phrase 18 = .ok (.iconst 2, 1) := by decide +kernel
theorem dX11_phrase_19 : decode cX11_phrase 19 = .ok (.invokevirtual 59, 3) := by decide +kernel
theorem dX11_phrase_22 : decode cX11_phrase 22 = .ok (.ifCond .ne 28, 3) := by decide +kernel
theorem dX11_phrase_25 : decode cX11_phrase 25 = .ok (.aload_n 0, 1) := by decide +kernel
theorem dX11_phrase_26 : decode cX11_phrase 26 = .ok (.aload_n 0, 1) := by decide +kernel
theorem dX11_phrase_27 : decode cX11_phrase 27 = .ok (.getfield 25, 3) := by decide +kernel
theorem dX11_phrase_30 : decode cX11_phrase 30 = .ok (.invokevirtual 67, 3) := by decide +kernel
theorem dX11_phrase_33 : decode cX11_phrase 33 = .ok (.bipush 8, 2) := by decide +kernel
theorem dX11_phrase_35 : decode cX11_phrase 35 = .ok (.if_icmp .ne 7, 3) := by decide +kernel
theorem dX11_phrase_38 : decode cX11_phrase 38 = .ok (.iconst 1, 1) := by decide +kernel
theorem dX11_phrase_39 : decode cX11_phrase 39 = .ok (.goto 4, 3) := by decide +kernel
theorem dX11_phrase_42 : decode cX11_phrase 42 = .ok (.iconst 0, 1) := by decide +kernel
theorem dX11_phrase_43 : decode cX11_phrase 43 = .ok (.iconst 3, 1) := by decide +kernel
theorem dX11_phrase_44 : decode cX11_phrase 44 = .ok (.invokevirtual 59, 3) := by decide +kernel
theorem dX11_phrase_47 : decode cX11_phrase 47 = .ok (.ifCond .eq 5, 3) := by decide +kernel
theorem dX11_phrase_50 : decode cX11_phrase 50 = .ok (.iconst 0, 1) := by decide +kernel
theorem dX11_phrase_51 : decode cX11_phrase 51 = .ok (.ireturn, 1) := by decide +kernel
theorem dX11_phrase_52 : decode cX11_phrase 52 = .ok (.aload_n 0, 1) := by decide +kernel
theorem dX11_phrase_53 : decode cX11_phrase 53 = .ok (.getfield 25, 3) := by decide +kernel
theorem dX11_phrase_56 : decode cX11_phrase 56 = .ok (.new 121, 3) := by decide +kernel
theorem dX11_phrase_59 : decode cX11_phrase 59 = .ok (.dup, 1) := by decide +kernel
theorem dX11_phrase_60 : decode cX11_phrase 60 = .ok (.iload_n 1, 1) := by decide +kernel
theorem dX11_phrase_61 : decode cX11_phrase 61 = .ok (.iload_n 2, 1) := by decide +kernel
theorem dX11_phrase_62 : decode cX11_phrase 62 = .ok (.iload_n 3, 1) := by decide +kernel
theorem dX11_phrase_63 : decode cX11_phrase 63 = .ok (.invokespecial 123, 3) := by decide +kernel
theorem dX11_phrase_66 : decode cX11_phrase 66 = .ok (.invokevirtual 83, 3) := by decide +kernel
theorem dX11_phrase_69 : decode cX11_phrase 69 = .ok (.pop, 1) := by decide +kernel
theorem dX11_phrase_70 : decode cX11_phrase 70 = .ok (.aload_n 0, 1) := by decide +kernel
theorem dX11_phrase_71 : decode cX11_phrase 71 = .ok (.getfield 25, 3) := by decide +kernel
theorem dX11_phrase_74 : decode cX11_phrase 74 = .ok (.invokevirtual 67, 3) := by decide +kernel
theorem dX11_phrase_77 : decode cX11_phrase 77 = .ok (.iconst 1, 1) := by decide +kernel
theorem dX11_phrase_78 : decode cX11_phrase 78 = .ok (.isub, 1) := by decide +kernel
theorem dX11_phrase_79 : decode cX11_phrase 79 = .ok (.ireturn, 1) := by decide +kernel
theorem dX11_change_0 : decode cX11_change 0 = .ok (.aload_n 0, 1) := by decide +kernel
theorem dX11_change_1 : decode cX11_change 1 = .ok (.aload_n 0, 1) := by decide +kernel
theorem dX11_change_2 : decode cX11_change 2 = .ok (.iload_n 1, 1) := by decide +kernel
theorem dX11_change_3 : decode cX11_change 3 = .ok (.invokevirtual 126, 3) := by decide +kernel
theorem dX11_change_6 : decode cX11_change 6 = .ok (.iconst 1, 1) := by decide +kernel
theorem dX11_change_7 : decode cX11_change 7 = .ok (.invokevirtual 75, 3) := by decide +kernel
theorem dX11_change_10 : decode cX11_change 10 = .ok (.ifCond .ne 16, 3) := by decide +kernel
theorem dX11_change_13 : decode cX11_change 13 = .ok (.aload_n 0, 1) := by decide +kernel
theorem dX11_change_14 : decode cX11_change 14 = .ok (.iload_n 2, 1) := by decide +kernel
theorem dX11_change_15 : decode cX11_change 15 = .ok (.iload_n 3, 1) := by decide +kernel
theorem dX11_change_16 : decode cX11_change 16 = .ok (.invokestatic 117, 3) := by decide +kernel
theorem dX11_change_19 : decode cX11_change 19 = .ok (.iconst 2, 1) := by decide +kernel
theorem dX11_change_20 : decode cX11_change 20 = .ok (.invokevirtual 59, 3) := by decide +kernel
theorem dX11_change_23 : decode cX11_change 23 = .ok (.ifCond .eq 5, 3) := by decide +kernel
theorem dX11_change_26 : decode cX11_change 26 = .ok (.iconst 0, 1) := by decide +kernel
theorem dX11_change_27 : decode cX11_change 27 = .ok (.ireturn, 1) := by decide +kernel
theorem dX11_change_28 : decode cX11_change 28 = .ok (.aload_n 0, 1) := by decide +kernel
theorem dX11_change_29 : decode cX11_change 29 = .ok (.getfield 25, 3) := by decide +kernel
theorem dX11_change_32 : decode cX11_change 32 = .ok (.iload_n 1, 1) := by decide +kernel
theorem dX11_change_33 : decode cX11_change 33 = .ok (.invokevirtual 90, 3) := by decide +kernel
theorem dX11_change_36 : decode cX11_change 36 = .ok (.checkcast 121, 3) := by decide +kernel
theorem dX11_change_39 : decode cX11_change 39 = .ok (.astore 4, 2) := by decide +kernel
theorem dX11_change_41 : decode cX11_change 41 = .ok (.aload 4, 2) := by decide +kernel
theorem dX11_change_43 : decode cX11_change 43 = .ok (.iload_n 2, 1) := by decide +kernel
theorem dX11_change_44 : decode cX11_change 44 = .ok (.putfield 129, 3) := by decide +kernel
theorem dX11_change_47 : decode cX11_change 47 = .ok (.aload 4, 2) := by decide +kernel
theorem dX11_change_49 : decode cX11_change 49 = .ok (.iload_n 3, 1) := by decide +kernel
theorem dX11_change_50 : decode cX11_change 50 = .ok (.putfield 132, 3) := by decide +kernel
theorem dX11_change_53 : decode cX11_change 53 = .ok (.aload 4, 2) := by decide +kernel
theorem dX11_change_55 : decode cX11_change 55 = .ok (.dup, 1) := by decide +kernel
theorem dX11_change_56 : decode cX11_change 56 = .ok (.getfield 135, 3) := by decide +kernel
theorem dX11_change_59 : decode cX11_change 59 = .ok (.iconst 1, 1) := by decide +kernel
theorem dX11_change_60 : decode cX11_change 60 = .ok (.iadd, 1) := by decide +kernel
theorem dX11_change_61 : decode cX11_change 61 = .ok (.putfield 135, 3) := by decide +kernel
theorem dX11_change_64 : decode cX11_change 64 = .ok (.aload_n 0, 1) := by decide +kernel
theorem dX11_change_65 : decode cX11_change 65 = .ok (.getfield 31, 3) := by decide +kernel
theorem dX11_change_68 : decode cX11_change 68 = .ok (.invokevirtual 138, 3) := by decide +kernel
theorem dX11_change_71 : decode cX11_change 71 = .ok (.astore 5, 2) := by decide +kernel
theorem dX11_change_73 : decode cX11_change 73 = .ok (.aload 5, 2) := by decide +kernel
theorem dX11_change_75 : decode cX11_change 75 = .ok (.invokeinterface 142 1, 5) := by decide +kernel
theorem dX11_change_80 : decode cX11_change 80 = .ok (.ifCond .eq 44, 3) := by decide +kernel
theorem dX11_change_83 : decode cX11_change 83 = .ok (.aload 5, 2) := by decide +kernel
theorem dX11_change_85 : decode cX11_change 85 = .ok (.invokeinterface 148 1, 5) := by decide +kernel
theorem dX11_change_90 : decode cX11_change 90 = .ok (.checkcast 152, 3) := by decide +kernel
theorem dX11_change_93 : decode cX11_change 93 = .ok (.astore 6, 2) := by decide +kernel
theorem dX11_change_95 : decode cX11_change 95 = .ok (.aload 6, 2) := by decide +kernel
theorem dX11_change_97 : decode cX11_change 97 = .ok (.getfield 154, 3) := by decide +kernel
theorem dX11_change_100 : decode cX11_change 100 = .ok (.iload_n 1, 1) := by decide +kernel
theorem dX11_change_101 : decode cX11_change 101 = .ok (.aload 6, 2) := by decide +kernel
theorem dX11_change_103 : decode cX11_change 103 = .ok (.aload 4, 2) := by decide +kernel
theorem dX11_change_105 : decode cX11_change 105 = .ok (.invokevirtual 157, 3) := by decide +kernel
theorem dX11_change_108 : decode cX11_change 108 = .ok (.aload 6, 2) := by decide +kernel
theorem dX11_change_110 : decode cX11_change 110 = .ok (.getfield 154, 3) := by decide +kernel
theorem dX11_change_113 : decode cX11_change 113 = .ok (.iload_n 1, 1) := by decide +kernel
theorem dX11_change_114 : decode cX11_change 114 = .ok (.iaload, 1) := by decide +kernel
theorem dX11_change_115 : decode cX11_change 115 = .ok (.iconst 2, 1) := by decide +kernel
theorem dX11_change_116 : decode cX11_change 116 = .ok (.idiv, 1) := by decide +kernel
theorem dX11_change_117 : decode cX11_change 117 = .ok (.invokestatic 1, 3) := by decide +kernel
theorem dX11_change_120 : decode cX11_change 120 = .ok (.iastore, 1) := by decide +kernel
theorem dX11_change_121 : decode cX11_change 121 = .ok (.goto (-48), 3) := by decide +kernel
theorem dX11_change_124 : decode cX11_change 124 = .ok (.aload 4, 2) := by decide +kernel
theorem dX11_change_126 : decode cX11_change 126 = .ok (.getfield 135, 3) := by decide +kernel
theorem dX11_change_129 : decode cX11_change 129 = .ok (.ireturn, 1) := by decide +kernel
theorem dX11_put_0 : decode cX11_put 0 = .ok (.aload_n 0, 1) := by decide +kernel
theorem dX11_put_1 : decode cX11_put 1 = .ok (.aload_n 0, 1) := by decide +kernel
theorem dX11_put_2 : decode cX11_put 2 = .ok (.iload_n 1, 1) := by decide +kernel
theorem dX11_put_3 : decode cX11_put 3 = .ok (.invokevirtual 126, 3) := by decide +kernel
theorem dX11_put_6 : decode cX11_put 6 = .ok (.iconst 1, 1) := by decide +kernel
theorem dX11_put_7 : decode cX11_put 7 = .ok (.invokevirtual 75, 3) := by decide +kernel
theorem dX11_put_10 : decode cX11_put 10 = .ok (.ifCond .ne 28, 3) := by decide +kernel
theorem dX11_put_13 : decode cX11_put 13 = .ok (.aload_n 0, 1) := by decide +kernel
theorem dX11_put_14 : decode cX11_put 14 = .ok (.aload_n 0, 1) := by decide +kernel
theorem dX11_put_15 : decode cX11_put 15 = .ok (.getfield 28, 3) := by decide +kernel
theorem dX11_put_18 : decode cX11_put 18 = .ok (.invokevirtual 67, 3) := by decide +kernel
theorem dX11_put_21 : decode cX11_put 21 = .ok (.bipush 10, 2) := by decide +kernel
theorem dX11_put_23 : decode cX11_put 23 = .ok (.if_icmp .ne 7, 3) := by decide +kernel
theorem dX11_put_26 : decode cX11_put 26 = .ok (.iconst 1, 1) := by decide +kernel
theorem dX11_put_27 : decode cX11_put 27 = .ok (.goto 4, 3) := by decide +kernel
theorem dX11_put_30 : decode cX11_put 30 = .ok (.iconst 0, 1) := by decide +kernel
theorem dX11_put_31 : decode cX11_put 31 = .ok (.iconst 2, 1) := by decide +kernel
theorem dX11_put_32 : decode cX11_put 32 = .ok (.invokevirtual 59, 3) := by decide +kernel
theorem dX11_put_35 : decode cX11_put 35 = .ok (.ifCond .eq 5, 3) := by decide +kernel
theorem dX11_put_38 : decode cX11_put 38 = .ok (.iconst 0, 1) := by decide +kernel
theorem dX11_put_39 : decode cX11_put 39 = .ok (.ireturn, 1) := by decide +kernel
theorem dX11_put_40 : decode cX11_put 40 = .ok (.aload_n 0, 1) := by decide +kernel
theorem dX11_put_41 : decode cX11_put 41 = .ok (.getfield 28, 3) := by decide +kernel
theorem dX11_put_44 : decode cX11_put 44 = .ok (.iload_n 1, 1) := by decide +kernel
theorem dX11_put_45 : decode cX11_put 45 = .ok (.invokestatic 161, 3) := by decide +kernel
theorem dX11_put_48 : decode cX11_put 48 = .ok (.invokevirtual 83, 3) := by decide +kernel
theorem dX11_put_51 : decode cX11_put 51 = .ok (.pop, 1) := by decide +kernel
theorem dX11_put_52 : decode cX11_put 52 = .ok (.aload_n 0, 1) := by decide +kernel
theorem dX11_put_53 : decode cX11_put 53 = .ok (.getfield 28, 3) := by decide +kernel
theorem dX11_put_56 : decode cX11_put 56 = .ok (.invokevirtual 67, 3) := by decide +kernel
theorem dX11_put_59 : decode cX11_put 59 = .ok (.iconst 1, 1) := by decide +kernel
theorem dX11_put_60 : decode cX11_put 60 = .ok (.isub, 1) := by decide +kernel
theorem dX11_put_61 : decode cX11_put 61 = .ok (.ireturn, 1) := by decide +kernel
theorem dX11_cut_0 : decode cX11_cut 0 = .ok (.aload_n 0, 1) := by decide +kernel
theorem dX11_cut_1 : decode cX11_cut 1 = .ok (.iload_n 1, 1) := by decide +kernel
theorem dX11_cut_2 : decode cX11_cut 2 = .ok (.iconst 0, 1) := by decide +kernel
theorem dX11_cut_3 : decode cX11_cut 3 = .ok (.aload_n 0, 1) := by decide +kernel
theorem dX11_cut_4 : decode cX11_cut 4 = .ok (.getfield 28, 3) := by decide +kernel
theorem dX11_cut_7 : decode cX11_cut 7 = .ok (.invokevirtual 67, 3) := by decide +kernel
theorem dX11_cut_10 : decode cX11_cut 10 = .ok (.iconst 1, 1) := by decide +kernel
theorem dX11_cut_11 : decode cX11_cut 11 = .ok (.isub, 1) := by decide +kernel
theorem dX11_cut_12 : decode cX11_cut 12 = .ok (.invokestatic 63, 3) := by decide +kernel
theorem dX11_cut_15 : decode cX11_cut 15 = .ok (.ifCond .ne 7, 3) := by decide +kernel
theorem dX11_cut_18 : decode cX11_cut 18 = .ok (.iconst 1, 1) := by decide +kernel
theorem dX11_cut_19 : decode cX11_cut 19 = .ok (.goto 4, 3) := by decide +kernel
theorem dX11_cut_22 : decode cX11_cut 22 = .ok (.iconst 0, 1) := by decide +kernel
theorem dX11_cut_23 : decode cX11_cut 23 = .ok (.iconst 1, 1) := by decide +kernel
theorem dX11_cut_24 : decode cX11_cut 24 = .ok (.invokevirtual 75, 3) := by decide +kernel
theorem dX11_cut_27 : decode cX11_cut 27 = .ok (.ifCond .eq 7, 3) := by decide +kernel
theorem dX11_cut_30 : decode cX11_cut 30 = .ok (.iconst 0, 1) := by decide +kernel
theorem dX11_cut_31 : decode cX11_cut 31 = .ok (.goto 17, 3) := by decide +kernel
theorem dX11_cut_34 : decode cX11_cut 34 = .ok (.aload_n 0, 1) := by decide +kernel
theorem dX11_cut_35 : decode cX11_cut 35 = .ok (.getfield 28, 3) := by decide +kernel
theorem dX11_cut_38 : decode cX11_cut 38 = .ok (.iload_n 1, 1) := by decide +kernel
theorem dX11_cut_39 : decode cX11_cut 39 = .ok (.invokevirtual 167, 3) := by decide +kernel
theorem dX11_cut_42 : decode cX11_cut 42 = .ok (.checkcast 162, 3) := by decide +kernel
theorem dX11_cut_45 : decode cX11_cut 45 = .ok (.invokevirtual 170, 3) := by decide +kernel
theorem dX11_cut_48 : decode cX11_cut 48 = .ok (.ireturn, 1) := by decide +kernel
theorem dX11_player_0 : decode cX11_player 0 = .ok (.aload_n 0, 1) := by decide +kernel
theorem dX11_player_1 : decode cX11_player 1 = .ok (.iload_n 1, 1) := by decide +kernel
theorem dX11_player_2 : decode cX11_player 2 = .ok (.invokestatic 71, 3) := by decide +kernel
theorem dX11_player_5 : decode cX11_player 5 = .ok (.iconst 1, 1) := by decide +kernel
theorem dX11_player_6 : decode cX11_player 6 = .ok (.invokevirtual 75, 3) := by decide +kernel
theorem dX11_player_9 : decode cX11_player 9 = .ok (.ifCond .ne 61, 3) := by decide +kernel
theorem dX11_player_12 : decode cX11_player 12 = .ok (.aload_n 0, 1) := by decide +kernel
theorem dX11_player_13 : decode cX11_player 13 = .ok (.iload_n 2, 1) := by decide +kernel
theorem dX11_player_14 : decode cX11_player 14 = .ok (.iconst 1, 1) := by decide +kernel
theorem dX11_player_15 : decode cX11_player 15 = .ok (.bipush 9, 2) := by decide +kernel
theorem dX11_player_17 : decode cX11_player 17 = .ok (.invokestatic 63, 3) := by decide +kernel
theorem dX11_player_20 : decode cX11_player 20 = .ok (.ifCond .eq 13, 3) := by decide +kernel
theorem dX11_player_23 : decode cX11_player 23 = .ok (.iload_n 3, 1) := by decide +kernel
theorem dX11_player_24 : decode cX11_player 24 = .ok (.iconst 1, 1) := by decide +kernel
theorem dX11_player_25 : decode cX11_player 25 = .ok (.bipush 8, 2) := by decide +kernel
theorem dX11_player_27 : decode cX11_player 27 = .ok (.invokestatic 63, 3) := by decide +kernel
theorem dX11_player_30 : decode cX11_player 30 = .ok (.ifCond .ne 7, 3) := by decide +kernel
theorem dX11_player_33 : decode cX11_player 33 = .ok (.iconst 1, 1) := by decide +kernel
theorem dX11_player_34 : decode cX11_player 34 = .ok (.goto 4, 3) := by decide +kernel
theorem dX11_player_37 : decode cX11_player 37 = .ok (.iconst 0, 1) := by decide +kernel
theorem dX11_player_38 : decode cX11_player 38 = .ok (.iconst 2, 1) := by decide +kernel
theorem dX11_player_39 : decode cX11_player 39 = .ok (.invokevirtual 59, 3) := by decide +kernel
theorem dX11_player_42 : decode cX11_player 42 = .ok (.ifCond .ne 28, 3) := by decide +kernel
theorem dX11_player_45 : decode cX11_player 45 = .ok (.aload_n 0, 1) := by decide +kernel
theorem dX11_player_46 : decode cX11_player 46 = .ok (.aload_n 0, 1) := by decide +kernel
theorem dX11_player_47 : decode cX11_player 47 = .ok (.getfield 31, 3) := by decide +kernel
theorem dX11_player_50 : decode cX11_player 50 = .ok (.invokevirtual 67, 3) := by decide +kernel
theorem dX11_player_53 : decode cX11_player 53 = .ok (.bipush 8, 2) := by decide +kernel
theorem dX11_player_55 : decode cX11_player 55 = .ok (.if_icmp .ne 7, 3) := by decide +kernel
theorem dX11_player_58 : decode cX11_player 58 = .ok (.iconst 1, 1) := by decide +kernel
theorem dX11_player_59 : decode cX11_player 59 = .ok (.goto 4, 3) := by decide +kernel
theorem dX11_player_62 : decode cX11_player 62 = .ok (.iconst 0, 1) := by decide +kernel
theorem dX11_player_63 : decode cX11_player 63 = .ok (.iconst 3, 1) := by decide +kernel
theorem dX11_player_64 : decode cX11_player 64 = .ok (.invokevirtual 59, 3) := by decide +kernel
theorem dX11_player_67 : decode cX11_player 67 = .ok (.ifCond .eq 5, 3) := by decide +kernel
theorem dX11_player_70 : decode cX11_player 70 = .ok (.iconst 0, 1) := by decide +kernel
theorem dX11_player_71 : decode cX11_player 71 = .ok (.ireturn, 1) := by decide +kernel
theorem dX11_player_72 : decode cX11_player 72 = .ok (.aload_n 0, 1) := by decide +kernel
theorem dX11_player_73 : decode cX11_player 73 = .ok (.getfield 31, 3) := by decide +kernel
theorem dX11_player_76 : decode cX11_player 76 = .ok (.new 152, 3) := by decide +kernel
theorem dX11_player_79 : decode cX11_player 79 = .ok (.dup, 1) := by decide +kernel
theorem dX11_player_80 : decode cX11_player 80 = .ok (.iload_n 1, 1) := by decide +kernel
theorem dX11_player_81 : decode cX11_player 81 = .ok (.iload_n 2, 1) := by decide +kernel
theorem dX11_player_82 : decode cX11_player 82 = .ok (.iload_n 3, 1) := by decide +kernel
theorem dX11_player_83 : decode cX11_player 83 = .ok (.invokespecial 173, 3) := by decide +kernel
theorem dX11_player_86 : decode cX11_player 86 = .ok (.invokevirtual 83, 3) := by decide +kernel
theorem dX11_player_89 : decode cX11_player 89 = .ok (.pop, 1) := by decide +kernel
theorem dX11_player_90 : decode cX11_player 90 = .ok (.aload_n 0, 1) := by decide +kernel
theorem dX11_player_91 : decode cX11_player 91 = .ok (.getfield 31, 3) := by decide +kernel
theorem dX11_player_94 : decode cX11_player 94 = .ok (.invokevirtual 67, 3) := by decide +kernel
theorem dX11_player_97 : decode cX11_player 97 = .ok (.iconst 1, 1) := by decide +kernel
theorem dX11_player_98 : decode cX11_player 98 = .ok (.isub, 1) := by decide +kernel
theorem dX11_player_99 : decode cX11_player 99 = .ok (.ireturn, 1) := by decide +kernel
theorem dX11_give_0 : decode cX11_give 0 = .ok (.aload_n 0, 1) := by decide +kernel
theorem dX11_give_1 : decode cX11_give 1 = .ok (.aload_n 0, 1) := by decide +kernel
theorem dX11_give_2 : decode cX11_give 2 = .ok (.iload_n 1, 1) := by decide +kernel
theorem dX11_give_3 : decode cX11_give 3 = .ok (.invokevirtual 174, 3) := by decide +kernel
theorem dX11_give_6 : decode cX11_give 6 = .ok (.ifCond .ne 16, 3) := by decide +kernel
theorem dX11_give_9 : decode cX11_give 9 = .ok (.iload_n 2, 1) := by decide +kernel
theorem dX11_give_10 : decode cX11_give 10 = .ok (.iconst (-1), 1) := by decide +kernel
theorem dX11_give_11 : decode cX11_give 11 = .ok (.if_icmp .eq 15, 3) := by decide +kernel
theorem dX11_give_14 : decode cX11_give 14 = .ok (.aload_n 0, 1) := by decide +kernel
theorem dX11_give_15 : decode cX11_give 15 = .ok (.iload_n 2, 1) := by decide +kernel
theorem dX11_give_16 : decode cX11_give 16 = .ok (.invokevirtual 87, 3) := by decide +kernel
theorem dX11_give_19 : decode cX11_give 19 = .ok (.ifCond .eq 7, 3) := by decide +kernel
theorem dX11_give_22 : decode cX11_give 22 = .ok (.iconst 1, 1) := by decide +kernel
theorem dX11_give_23 : decode cX11_give 23 = .ok (.goto 4, 3) := by decide +kernel
theorem dX11_give_26 : decode cX11_give 26 = .ok (.iconst 0, 1) := by decide +kernel
theorem dX11_give_27 : decode cX11_give 27 = .ok (.iconst 1, 1) := by decide +kernel
theorem dX11_give_28 : decode cX11_give 28 = .ok (.invokevirtual 75, 3) := by decide +kernel
theorem dX11_give_31 : decode cX11_give 31 = .ok (.ifCond .ne 52, 3) := by decide +kernel
theorem dX11_give_34 : decode cX11_give 34 = .ok (.aload_n 0, 1) := by decide +kernel
theorem dX11_give_35 : decode cX11_give 35 = .ok (.iload_n 2, 1) := by decide +kernel
theorem dX11_give_36 : decode cX11_give 36 = .ok (.iconst (-1), 1) := by decide +kernel
theorem dX11_give_37 : decode cX11_give 37 = .ok (.if_icmp .eq 38, 3) := by decide +kernel
theorem dX11_give_40 : decode cX11_give 40 = .ok (.aload_n 0, 1) := by decide +kernel
theorem dX11_give_41 : decode cX11_give 41 = .ok (.getfield 19, 3) := by decide +kernel
theorem dX11_give_44 : decode cX11_give 44 = .ok (.iload_n 2, 1) := by decide +kernel
theorem dX11_give_45 : decode cX11_give 45 = .ok (.invokevirtual 90, 3) := by decide +kernel
theorem dX11_give_48 : decode cX11_give 48 = .ok (.checkcast 78, 3) := by decide +kernel
theorem dX11_give_51 : decode cX11_give 51 = .ok (.getfield 177, 3) := by decide +kernel
theorem dX11_give_54 : decode cX11_give 54 = .ok (.aload_n 0, 1) := by decide +kernel
theorem dX11_give_55 : decode cX11_give 55 = .ok (.getfield 31, 3) := by decide +kernel
theorem dX11_give_58 : decode cX11_give 58 = .ok (.iload_n 1, 1) := by decide +kernel
theorem dX11_give_59 : decode cX11_give 59 = .ok (.invokevirtual 90, 3) := by decide +kernel
theorem dX11_give_62 : decode cX11_give 62 = .ok (.checkcast 152, 3) := by decide +kernel
theorem dX11_give_65 : decode cX11_give 65 = .ok (.getfield 180, 3) := by decide +kernel
theorem dX11_give_68 : decode cX11_give 68 = .ok (.if_icmp .eq 7, 3) := by decide +kernel
theorem dX11_give_71 : decode cX11_give 71 = .ok (.iconst 1, 1) := by decide +kernel
theorem dX11_give_72 : decode cX11_give 72 = .ok (.goto 4, 3) := by decide +kernel
theorem dX11_give_75 : decode cX11_give 75 = .ok (.iconst 0, 1) := by decide +kernel
theorem dX11_give_76 : decode cX11_give 76 = .ok (.iconst 2, 1) := by decide +kernel
theorem dX11_give_77 : decode cX11_give 77 = .ok (.invokevirtual 59, 3) := by decide +kernel
theorem dX11_give_80 : decode cX11_give 80 = .ok (.ifCond .eq 5, 3) := by decide +kernel
theorem dX11_give_83 : decode cX11_give 83 = .ok (.iconst 0, 1) := by decide +kernel
theorem dX11_give_84 : decode cX11_give 84 = .ok (.ireturn, 1) := by decide +kernel
theorem dX11_give_85 : decode cX11_give 85 = .ok (.aload_n 0, 1) := by decide +kernel
theorem dX11_give_86 : decode cX11_give 86 = .ok (.getfield 31, 3) := by decide +kernel
theorem dX11_give_89 : decode cX11_give 89 = .ok (.iload_n 1, 1) := by decide +kernel
theorem dX11_give_90 : decode cX11_give 90 = .ok (.invokevirtual 90, 3) := by decide +kernel
theorem dX11_give_93 : decode cX11_give 93 = .ok (.checkcast 152, 3) := by decide +kernel
theorem dX11_give_96 : decode cX11_give 96 = .ok (.getfield 183, 3) := by decide +kernel
theorem dX11_give_99 : decode cX11_give 99 = .ok (.istore_n 3, 1) := by decide +kernel
theorem dX11_give_100 : decode cX11_give 100 = .ok (.aload_n 0, 1) := by decide +kernel
theorem dX11_give_101 : decode cX11_give 101 = .ok (.getfield 31, 3) := by decide +kernel
theorem dX11_give_104 : decode cX11_give 104 = .ok (.iload_n 1, 1) := by decide +kernel
theorem dX11_give_105 : decode cX11_give 105 = .ok (.invokevirtual 90, 3) := by decide +kernel
theorem dX11_give_108 : decode cX11_give 108 = .ok (.checkcast 152, 3) := by decide +kernel
theorem dX11_give_111 : decode cX11_give 111 = .ok (.iload_n 2, 1) := by decide +kernel
theorem dX11_give_112 : decode cX11_give 112 = .ok (.putfield 183, 3) := by decide +kernel
theorem dX11_give_115 : decode cX11_give 115 = .ok (.iload_n 3, 1) := by decide +kernel
theorem dX11_give_116 : decode cX11_give 116 = .ok (.ireturn, 1) := by decide +kernel
theorem dX11_absent_0 : decode cX11_absent 0 = .ok (.aload_n 0, 1) := by decide +kernel
theorem dX11_absent_1 : decode cX11_absent 1 = .ok (.aload_n 0, 1) := by decide +kernel
theorem dX11_absent_2 : decode cX11_absent 2 = .ok (.iload_n 1, 1) := by decide +kernel
theorem dX11_absent_3 : decode cX11_absent 3 = .ok (.invokevirtual 174, 3) := by decide +kernel
theorem dX11_absent_6 : decode cX11_absent 6 = .ok (.iconst 1, 1) := by decide +kernel
theorem dX11_absent_7 : decode cX11_absent 7 = .ok (.invokevirtual 75, 3) := by decide +kernel
theorem dX11_absent_10 : decode cX11_absent 10 = .ok (.ifCond .eq 5, 3) := by decide +kernel
theorem dX11_absent_13 : decode cX11_absent 13 = .ok (.iconst 0, 1) := by decide +kernel
theorem dX11_absent_14 : decode cX11_absent 14 = .ok (.ireturn, 1) := by decide +kernel
theorem dX11_absent_15 : decode cX11_absent 15 = .ok (.aload_n 0, 1) := by decide +kernel
theorem dX11_absent_16 : decode cX11_absent 16 = .ok (.getfield 31, 3) := by decide +kernel
theorem dX11_absent_19 : decode cX11_absent 19 = .ok (.iload_n 1, 1) := by decide +kernel
theorem dX11_absent_20 : decode cX11_absent 20 = .ok (.invokevirtual 90, 3) := by decide +kernel
theorem dX11_absent_23 : decode cX11_absent 23 = .ok (.checkcast 152, 3) := by decide +kernel
theorem dX11_absent_26 : decode cX11_absent 26 = .ok (.getfield 186, 3) := by decide +kernel
theorem dX11_absent_29 : decode cX11_absent 29 = .ok (.istore_n 3, 1) := by decide +kernel
theorem dX11_absent_30 : decode cX11_absent 30 = .ok (.aload_n 0, 1) := by decide +kernel
theorem dX11_absent_31 : decode cX11_absent 31 = .ok (.getfield 31, 3) := by decide +kernel
theorem dX11_absent_34 : decode cX11_absent 34 = .ok (.iload_n 1, 1) := by decide +kernel
theorem dX11_absent_35 : decode cX11_absent 35 = .ok (.invokevirtual 90, 3) := by decide +kernel
theorem dX11_absent_38 : decode cX11_absent 38 = .ok (.checkcast 152, 3) := by decide +kernel
theorem dX11_absent_41 : decode cX11_absent 41 = .ok (.iload_n 2, 1) := by decide +kernel
theorem dX11_absent_42 : decode cX11_absent 42 = .ok (.putfield 186, 3) := by decide +kernel
theorem dX11_absent_45 : decode cX11_absent 45 = .ok (.iload_n 3, 1) := by decide +kernel
theorem dX11_absent_46 : decode cX11_absent 46 = .ok (.ireturn, 1) := by decide +kernel
theorem dX11_taught_0 : decode cX11_taught 0 = .ok (.aload_n 1, 1) := by decide +kernel
theorem dX11_taught_1 : decode cX11_taught 1 = .ok (.aload_n 0, 1) := by decide +kernel
theorem dX11_taught_2 : decode cX11_taught 2 = .ok (.getfield 25, 3) := by decide +kernel
theorem dX11_taught_5 : decode cX11_taught 5 = .ok (.iload_n 2, 1) := by decide +kernel
theorem dX11_taught_6 : decode cX11_taught 6 = .ok (.invokevirtual 90, 3) := by decide +kernel
theorem dX11_taught_9 : decode cX11_taught 9 = .ok (.checkcast 121, 3) := by decide +kernel
theorem dX11_taught_12 : decode cX11_taught 12 = .ok (.invokevirtual 157, 3) := by decide +kernel
theorem dX11_taught_15 : decode cX11_taught 15 = .ok (.aload_n 1, 1) := by decide +kernel
theorem dX11_taught_16 : decode cX11_taught 16 = .ok (.getfield 154, 3) := by decide +kernel
theorem dX11_taught_19 : decode cX11_taught 19 = .ok (.iload_n 2, 1) := by decide +kernel
theorem dX11_taught_20 : decode cX11_taught 20 = .ok (.iaload, 1) := by decide +kernel
theorem dX11_taught_21 : decode cX11_taught 21 = .ok (.iload_n 3, 1) := by decide +kernel
theorem dX11_taught_22 : decode cX11_taught 22 = .ok (.aload_n 1, 1) := by decide +kernel
theorem dX11_taught_23 : decode cX11_taught 23 = .ok (.getfield 189, 3) := by decide +kernel
theorem dX11_taught_26 : decode cX11_taught 26 = .ok (.imul, 1) := by decide +kernel
theorem dX11_taught_27 : decode cX11_taught 27 = .ok (.aload_n 0, 1) := by decide +kernel
theorem dX11_taught_28 : decode cX11_taught 28 = .ok (.getfield 25, 3) := by decide +kernel
theorem dX11_taught_31 : decode cX11_taught 31 = .ok (.iload_n 2, 1) := by decide +kernel
theorem dX11_taught_32 : decode cX11_taught 32 = .ok (.invokevirtual 90, 3) := by decide +kernel
theorem dX11_taught_35 : decode cX11_taught 35 = .ok (.checkcast 121, 3) := by decide +kernel
theorem dX11_taught_38 : decode cX11_taught 38 = .ok (.getfield 129, 3) := by decide +kernel
theorem dX11_taught_41 : decode cX11_taught 41 = .ok (.idiv, 1) := by decide +kernel
theorem dX11_taught_42 : decode cX11_taught 42 = .ok (.iadd, 1) := by decide +kernel
theorem dX11_taught_43 : decode cX11_taught 43 = .ok (.invokestatic 1, 3) := by decide +kernel
theorem dX11_taught_46 : decode cX11_taught 46 = .ok (.ireturn, 1) := by decide +kernel
theorem dX11_teach_0 : decode cX11_teach 0 = .ok (.aload_n 0, 1) := by decide +kernel
theorem dX11_teach_1 : decode cX11_teach 1 = .ok (.aload_n 0, 1) := by decide +kernel
theorem dX11_teach_2 : decode cX11_teach 2 = .ok (.iload_n 1, 1) := by decide +kernel
theorem dX11_teach_3 : decode cX11_teach 3 = .ok (.invokevirtual 174, 3) := by decide +kernel
theorem dX11_teach_6 : decode cX11_teach 6 = .ok (.ifCond .ne 11, 3) := by decide +kernel
theorem dX11_teach_9 : decode cX11_teach 9 = .ok (.aload_n 0, 1) := by decide +kernel
theorem dX11_teach_10 : decode cX11_teach 10 = .ok (.iload_n 2, 1) := by decide +kernel
theorem dX11_teach_11 : decode cX11_teach 11 = .ok (.invokevirtual 126, 3) := by decide +kernel
theorem dX11_teach_14 : decode cX11_teach 14 = .ok (.ifCond .eq 7, 3) := by decide +kernel
theorem dX11_teach_17 : decode cX11_teach 17 = .ok (.iconst 1, 1) := by decide +kernel
theorem dX11_teach_18 : decode cX11_teach 18 = .ok (.goto 4, 3) := by decide +kernel
theorem dX11_teach_21 : decode cX11_teach 21 = .ok (.iconst 0, 1) := by decide +kernel
theorem dX11_teach_22 : decode cX11_teach 22 = .ok (.iconst 1, 1) := by decide +kernel
theorem dX11_teach_23 : decode cX11_teach 23 = .ok (.invokevirtual 75, 3) := by decide +kernel
theorem dX11_teach_26 : decode cX11_teach 26 = .ok (.ifCond .eq 5, 3) := by decide +kernel
theorem dX11_teach_29 : decode cX11_teach 29 = .ok (.iconst 0, 1) := by decide +kernel
theorem dX11_teach_30 : decode cX11_teach 30 = .ok (.ireturn, 1) := by decide +kernel
theorem dX11_teach_31 : decode cX11_teach 31 = .ok (.aload_n 0, 1) := by decide +kernel
theorem dX11_teach_32 : decode cX11_teach 32 = .ok (.getfield 31, 3) := by decide +kernel
theorem dX11_teach_35 : decode cX11_teach 35 = .ok (.iload_n 1, 1) := by decide +kernel
theorem dX11_teach_36 : decode cX11_teach 36 = .ok (.invokevirtual 90, 3) := by decide +kernel
theorem dX11_teach_39 : decode cX11_teach 39 = .ok (.checkcast 152, 3) := by decide +kernel
theorem dX11_teach_42 : decode cX11_teach 42 = .ok (.astore 4, 2) := by decide +kernel
theorem dX11_teach_44 : decode cX11_teach 44 = .ok (.aload_n 0, 1) := by decide +kernel
theorem dX11_teach_45 : decode cX11_teach 45 = .ok (.iload_n 3, 1) := by decide +kernel
theorem dX11_teach_46 : decode cX11_teach 46 = .ok (.iconst 1, 1) := by decide +kernel
theorem dX11_teach_47 : decode cX11_teach 47 = .ok (.bipush 60, 2) := by decide +kernel
theorem dX11_teach_49 : decode cX11_teach 49 = .ok (.invokestatic 63, 3) := by decide +kernel
theorem dX11_teach_52 : decode cX11_teach 52 = .ok (.ifCond .eq 25, 3) := by decide +kernel
theorem dX11_teach_55 : decode cX11_teach 55 = .ok (.aload_n 0, 1) := by decide +kernel
theorem dX11_teach_56 : decode cX11_teach 56 = .ok (.getfield 25, 3) := by decide +kernel
theorem dX11_teach_59 : decode cX11_teach 59 = .ok (.iload_n 2, 1) := by decide +kernel
theorem dX11_teach_60 : decode cX11_teach 60 = .ok (.invokevirtual 90, 3) := by decide +kernel
theorem dX11_teach_63 : decode cX11_teach 63 = .ok (.checkcast 121, 3) := by decide +kernel
theorem dX11_teach_66 : decode cX11_teach 66 = .ok (.getfield 192, 3) := by decide +kernel
theorem dX11_teach_69 : decode cX11_teach 69 = .ok (.aload 4, 2) := by decide +kernel
theorem dX11_teach_71 : decode cX11_teach 71 = .ok (.getfield 180, 3) := by decide +kernel
theorem dX11_teach_74 : decode cX11_teach 74 = .ok (.if_icmp .eq 7, 3) := by decide +kernel
theorem dX11_teach_77 : decode cX11_teach 77 = .ok (.iconst 1, 1) := by decide +kernel
theorem dX11_teach_78 : decode cX11_teach 78 = .ok (.goto 4, 3) := by decide +kernel
theorem dX11_teach_81 : decode cX11_teach 81 = .ok (.iconst 0, 1) := by decide +kernel
theorem dX11_teach_82 : decode cX11_teach 82 = .ok (.iconst 2, 1) := by decide +kernel
theorem dX11_teach_83 : decode cX11_teach 83 = .ok (.invokevirtual 59, 3) := by decide +kernel
theorem dX11_teach_86 : decode cX11_teach 86 = .ok (.ifCond .ne 41, 3) := by decide +kernel
theorem dX11_teach_89 : decode cX11_teach 89 = .ok (.aload_n 0, 1) := by decide +kernel
theorem dX11_teach_90 : decode cX11_teach 90 = .ok (.aload 4, 2) := by decide +kernel
theorem dX11_teach_92 : decode cX11_teach 92 = .ok (.getfield 186, 3) := by decide +kernel
theorem dX11_teach_95 : decode cX11_teach 95 = .ok (.ifCond .ne 20, 3) := by decide +kernel
theorem dX11_teach_98 : decode cX11_teach 98 = .ok (.aload_n 0, 1) := by decide +kernel
theorem dX11_teach_99 : decode cX11_teach 99 = .ok (.getfield 37, 3) := by decide +kernel
theorem dX11_teach_102 : decode cX11_teach 102 = .ok (.aload 4, 2) := by decide +kernel
theorem dX11_teach_104 : decode cX11_teach 104 = .ok (.getfield 180, 3) := by decide +kernel
theorem dX11_teach_107 : decode cX11_teach 107 = .ok (.iaload, 1) := by decide +kernel
theorem dX11_teach_108 : decode cX11_teach 108 = .ok (.iload_n 3, 1) := by decide +kernel
theorem dX11_teach_109 : decode cX11_teach 109 = .ok (.iadd, 1) := by decide +kernel
theorem dX11_teach_110 : decode cX11_teach 110 = .ok (.bipush 90, 2) := by decide +kernel
theorem dX11_teach_112 : decode cX11_teach 112 = .ok (.if_icmp .le 7, 3) := by decide +kernel
theorem dX11_teach_115 : decode cX11_teach 115 = .ok (.iconst 1, 1) := by decide +kernel
theorem dX11_teach_116 : decode cX11_teach 116 = .ok (.goto 4, 3) := by decide +kernel
theorem dX11_teach_119 : decode cX11_teach 119 = .ok (.iconst 0, 1) := by decide +kernel
theorem dX11_teach_120 : decode cX11_teach 120 = .ok (.iconst 3, 1) := by decide +kernel
theorem dX11_teach_121 : decode cX11_teach 121 = .ok (.invokevirtual 59, 3) := by decide +kernel
theorem dX11_teach_124 : decode cX11_teach 124 = .ok (.ifCond .eq 5, 3) := by decide +kernel
theorem dX11_teach_127 : decode cX11_teach 127 = .ok (.iconst 0, 1) := by decide +kernel
theorem dX11_teach_128 : decode cX11_teach 128 = .ok (.ireturn, 1) := by decide +kernel
theorem dX11_teach_129 : decode cX11_teach 129 = .ok (.aload_n 0, 1) := by decide +kernel
theorem dX11_teach_130 : decode cX11_teach 130 = .ok (.getfield 37, 3) := by decide +kernel
theorem dX11_teach_133 : decode cX11_teach 133 = .ok (.aload 4, 2) := by decide +kernel
theorem dX11_teach_135 : decode cX11_teach 135 = .ok (.getfield 180, 3) := by decide +kernel
theorem dX11_teach_138 : decode cX11_teach 138 = .ok (.dup2, 1) := by decide +kernel
theorem dX11_teach_139 : decode cX11_teach 139 = .ok (.iaload, 1) := by decide +kernel
theorem dX11_teach_140 : decode cX11_teach 140 = .ok (.iload_n 3, 1) := by decide +kernel
theorem dX11_teach_141 : decode cX11_teach 141 = .ok (.iadd, 1) := by decide +kernel
theorem dX11_teach_142 : decode cX11_teach 142 = .ok (.iastore, 1) := by decide +kernel
theorem dX11_teach_143 : decode cX11_teach 143 = .ok (.aload 4, 2) := by decide +kernel
theorem dX11_teach_145 : decode cX11_teach 145 = .ok (.getfield 154, 3) := by decide +kernel
theorem dX11_teach_148 : decode cX11_teach 148 = .ok (.iload_n 2, 1) := by decide +kernel
theorem dX11_teach_149 : decode cX11_teach 149 = .ok (.aload_n 0, 1) := by decide +kernel
theorem dX11_teach_150 : decode cX11_teach 150 = .ok (.aload 4, 2) := by decide +kernel
theorem dX11_teach_152 : decode cX11_teach 152 = .ok (.iload_n 2, 1) := by decide +kernel
theorem dX11_teach_153 : decode cX11_teach 153 = .ok (.iload_n 3, 1) := by decide +kernel
theorem dX11_teach_154 : decode cX11_teach 154 = .ok (.invokevirtual 193, 3) := by decide +kernel
theorem dX11_teach_157 : decode cX11_teach 157 = .ok (.iastore, 1) := by decide +kernel
theorem dX11_teach_158 : decode cX11_teach 158 = .ok (.aload 4, 2) := by decide +kernel
theorem dX11_teach_160 : decode cX11_teach 160 = .ok (.getfield 197, 3) := by decide +kernel
theorem dX11_teach_163 : decode cX11_teach 163 = .ok (.iload_n 2, 1) := by decide +kernel
theorem dX11_teach_164 : decode cX11_teach 164 = .ok (.iconst 1, 1) := by decide +kernel
theorem dX11_teach_165 : decode cX11_teach 165 = .ok (.bastore, 1) := by decide +kernel
theorem dX11_teach_166 : decode cX11_teach 166 = .ok (.aload 4, 2) := by decide +kernel
theorem dX11_teach_168 : decode cX11_teach 168 = .ok (.dup, 1) := by decide +kernel
theorem dX11_teach_169 : decode cX11_teach 169 = .ok (.getfield 201, 3) := by decide +kernel
theorem dX11_teach_172 : decode cX11_teach 172 = .ok (.iload_n 3, 1) := by decide +kernel
theorem dX11_teach_173 : decode cX11_teach 173 = .ok (.iadd, 1) := by decide +kernel
theorem dX11_teach_174 : decode cX11_teach 174 = .ok (.putfield 201, 3) := by decide +kernel
theorem dX11_teach_177 : decode cX11_teach 177 = .ok (.aload 4, 2) := by decide +kernel
theorem dX11_teach_179 : decode cX11_teach 179 = .ok (.getfield 154, 3) := by decide +kernel
theorem dX11_teach_182 : decode cX11_teach 182 = .ok (.iload_n 2, 1) := by decide +kernel
theorem dX11_teach_183 : decode cX11_teach 183 = .ok (.iaload, 1) := by decide +kernel
theorem dX11_teach_184 : decode cX11_teach 184 = .ok (.ireturn, 1) := by decide +kernel
theorem dX11_sounds_0 : decode cX11_sounds 0 = .ok (.aload_n 1, 1) := by decide +kernel
theorem dX11_sounds_1 : decode cX11_sounds 1 = .ok (.getfield 186, 3) := by decide +kernel
theorem dX11_sounds_4 : decode cX11_sounds 4 = .ok (.ifCond .ne 35, 3) := by decide +kernel
theorem dX11_sounds_7 : decode cX11_sounds 7 = .ok (.aload_n 1, 1) := by decide +kernel
theorem dX11_sounds_8 : decode cX11_sounds 8 = .ok (.getfield 183, 3) := by decide +kernel
theorem dX11_sounds_11 : decode cX11_sounds 11 = .ok (.iconst (-1), 1) := by decide +kernel
theorem dX11_sounds_12 : decode cX11_sounds 12 = .ok (.if_icmp .eq 27, 3) := by decide +kernel
theorem dX11_sounds_15 : decode cX11_sounds 15 = .ok (.aload_n 0, 1) := by decide +kernel
theorem dX11_sounds_16 : decode cX11_sounds 16 = .ok (.getfield 19, 3) := by decide +kernel
theorem dX11_sounds_19 : decode cX11_sounds 19 = .ok (.aload_n 1, 1) := by decide +kernel
theorem dX11_sounds_20 : decode cX11_sounds 20 = .ok (.getfield 183, 3) := by decide +kernel
theorem dX11_sounds_23 : decode cX11_sounds 23 = .ok (.invokevirtual 90, 3) := by decide +kernel
theorem dX11_sounds_26 : decode cX11_sounds 26 = .ok (.checkcast 78, 3) := by decide +kernel
theorem dX11_sounds_29 : decode cX11_sounds 29 = .ok (.getfield 94, 3) := by decide +kernel
theorem dX11_sounds_32 : decode cX11_sounds 32 = .ok (.ifCond .ne 7, 3) := by decide +kernel
theorem dX11_sounds_35 : decode cX11_sounds 35 = .ok (.iconst 1, 1) := by decide +kernel
theorem dX11_sounds_36 : decode cX11_sounds 36 = .ok (.goto 4, 3) := by decide +kernel
theorem dX11_sounds_39 : decode cX11_sounds 39 = .ok (.iconst 0, 1) := by decide +kernel
theorem dX11_sounds_40 : decode cX11_sounds 40 = .ok (.ireturn, 1) := by decide +kernel
theorem dX11_sounding_0 : decode cX11_sounding 0 = .ok (.iconst 0, 1) := by decide +kernel
theorem dX11_sounding_1 : decode cX11_sounding 1 = .ok (.istore_n 1, 1) := by decide +kernel
theorem dX11_sounding_2 : decode cX11_sounding 2 = .ok (.aload_n 0, 1) := by decide +kernel
theorem dX11_sounding_3 : decode cX11_sounding 3 = .ok (.getfield 31, 3) := by decide +kernel
theorem dX11_sounding_6 : decode cX11_sounding 6 = .ok (.invokevirtual 138, 3) := by decide +kernel
theorem dX11_sounding_9 : decode cX11_sounding 9 = .ok (.astore_n 2, 1) := by decide +kernel
theorem dX11_sounding_10 : decode cX11_sounding 10 = .ok (.aload_n 2, 1) := by decide +kernel
theorem dX11_sounding_11 : decode cX11_sounding 11 = .ok (.invokeinterface 142 1, 5) := by decide +kernel
theorem dX11_sounding_16 : decode cX11_sounding 16 = .ok (.ifCond .eq 32, 3) := by decide +kernel
theorem dX11_sounding_19 : decode cX11_sounding 19 = .ok (.aload_n 2, 1) := by decide +kernel
theorem dX11_sounding_20 : decode cX11_sounding 20 = .ok (.invokeinterface 148 1, 5) := by decide +kernel
theorem dX11_sounding_25 : decode cX11_sounding 25 = .ok (.checkcast 152, 3) := by decide +kernel
theorem dX11_sounding_28 : decode cX11_sounding 28 = .ok (.astore_n 3, 1) := by decide +kernel
theorem dX11_sounding_29 : decode cX11_sounding 29 = .ok (.iload_n 1, 1) := by decide +kernel
theorem dX11_sounding_30 : decode cX11_sounding 30 = .ok (.aload_n 0, 1) := by decide +kernel
theorem dX11_sounding_31 : decode cX11_sounding 31 = .ok (.aload_n 3, 1) := by decide +kernel
theorem dX11_sounding_32 : decode cX11_sounding 32 = .ok (.invokevirtual 203, 3) := by decide +kernel
theorem dX11_sounding_35 : decode cX11_sounding 35 = .ok (.ifCond .eq 7, 3) := by decide +kernel
theorem dX11_sounding_38 : decode cX11_sounding 38 = .ok (.iconst 1, 1) := by decide +kernel
theorem dX11_sounding_39 : decode cX11_sounding 39 = .ok (.goto 4, 3) := by decide +kernel
theorem dX11_sounding_42 : decode cX11_sounding 42 = .ok (.iconst 0, 1) := by decide +kernel
theorem dX11_sounding_43 : decode cX11_sounding 43 = .ok (.iadd, 1) := by decide +kernel
theorem dX11_sounding_44 : decode cX11_sounding 44 = .ok (.istore_n 1, 1) := by decide +kernel
theorem dX11_sounding_45 : decode cX11_sounding 45 = .ok (.goto (-35), 3) := by decide +kernel
theorem dX11_sounding_48 : decode cX11_sounding 48 = .ok (.iload_n 1, 1) := by decide +kernel
theorem dX11_sounding_49 : decode cX11_sounding 49 = .ok (.ireturn, 1) := by decide +kernel
theorem dX11_rehearse_0 : decode cX11_rehearse 0 = .ok (.aload_n 0, 1) := by decide +kernel
theorem dX11_rehearse_1 : decode cX11_rehearse 1 = .ok (.getfield 25, 3) := by decide +kernel
theorem dX11_rehearse_4 : decode cX11_rehearse 4 = .ok (.iload_n 2, 1) := by decide +kernel
theorem dX11_rehearse_5 : decode cX11_rehearse 5 = .ok (.invokevirtual 90, 3) := by decide +kernel
theorem dX11_rehearse_8 : decode cX11_rehearse 8 = .ok (.checkcast 121, 3) := by decide +kernel
theorem dX11_rehearse_11 : decode cX11_rehearse 11 = .ok (.astore 4, 2) := by decide +kernel
theorem dX11_rehearse_13 : decode cX11_rehearse 13 = .ok (.aload 4, 2) := by decide +kernel
theorem dX11_rehearse_15 : decode cX11_rehearse 15 = .ok (.getfield 192, 3) := by decide +kernel
theorem dX11_rehearse_18 : decode cX11_rehearse 18 = .ok (.aload_n 1, 1) := by decide +kernel
theorem dX11_rehearse_19 : decode cX11_rehearse 19 = .ok (.getfield 180, 3) := by decide +kernel
theorem dX11_rehearse_22 : decode cX11_rehearse 22 = .ok (.if_icmp .ne 14, 3) := by decide +kernel
theorem dX11_rehearse_25 : decode cX11_rehearse 25 = .ok (.aload_n 1, 1) := by decide +kernel
theorem dX11_rehearse_26 : decode cX11_rehearse 26 = .ok (.getfield 154, 3) := by decide +kernel
theorem dX11_rehearse_29 : decode cX11_rehearse 29 = .ok (.iload_n 2, 1) := by decide +kernel
theorem dX11_rehearse_30 : decode cX11_rehearse 30 = .ok (.iaload, 1) := by decide +kernel
theorem dX11_rehearse_31 : decode cX11_rehearse 31 = .ok (.bipush 30, 2) := by decide +kernel
theorem dX11_rehearse_33 : decode cX11_rehearse 33 = .ok (.if_icmp .ge 4, 3) := by decide +kernel
theorem dX11_rehearse_36 : decode cX11_rehearse 36 = .ok (.return_, 1) := by decide +kernel
theorem dX11_rehearse_37 : decode cX11_rehearse 37 = .ok (.aload_n 1, 1) := by decide +kernel
theorem dX11_rehearse_38 : decode cX11_rehearse 38 = .ok (.getfield 154, 3) := by decide +kernel
theorem dX11_rehearse_41 : decode cX11_rehearse 41 = .ok (.iload_n 2, 1) := by decide +kernel
theorem dX11_rehearse_42 : decode cX11_rehearse 42 = .ok (.aload_n 1, 1) := by decide +kernel
theorem dX11_rehearse_43 : decode cX11_rehearse 43 = .ok (.aload 4, 2) := by decide +kernel
theorem dX11_rehearse_45 : decode cX11_rehearse 45 = .ok (.invokevirtual 157, 3) := by decide +kernel
theorem dX11_rehearse_48 : decode cX11_rehearse 48 = .ok (.aload_n 1, 1) := by decide +kernel
theorem dX11_rehearse_49 : decode cX11_rehearse 49 = .ok (.getfield 154, 3) := by decide +kernel
theorem dX11_rehearse_52 : decode cX11_rehearse 52 = .ok (.iload_n 2, 1) := by decide +kernel
theorem dX11_rehearse_53 : decode cX11_rehearse 53 = .ok (.iaload, 1) := by decide +kernel
theorem dX11_rehearse_54 : decode cX11_rehearse 54 = .ok (.iload_n 3, 1) := by decide +kernel
theorem dX11_rehearse_55 : decode cX11_rehearse 55 = .ok (.bipush 10, 2) := by decide +kernel
theorem dX11_rehearse_57 : decode cX11_rehearse 57 = .ok (.idiv, 1) := by decide +kernel
theorem dX11_rehearse_58 : decode cX11_rehearse 58 = .ok (.iadd, 1) := by decide +kernel
theorem dX11_rehearse_59 : decode cX11_rehearse 59 = .ok (.invokestatic 1, 3) := by decide +kernel
theorem dX11_rehearse_62 : decode cX11_rehearse 62 = .ok (.iastore, 1) := by decide +kernel
theorem dX11_rehearse_63 : decode cX11_rehearse 63 = .ok (.aload_n 1, 1) := by decide +kernel
theorem dX11_rehearse_64 : decode cX11_rehearse 64 = .ok (.getfield 197, 3) := by decide +kernel
theorem dX11_rehearse_67 : decode cX11_rehearse 67 = .ok (.iload_n 2, 1) := by decide +kernel
theorem dX11_rehearse_68 : decode cX11_rehearse 68 = .ok (.iconst 1, 1) := by decide +kernel
theorem dX11_rehearse_69 : decode cX11_rehearse 69 = .ok (.bastore, 1) := by decide +kernel
theorem dX11_rehearse_70 : decode cX11_rehearse 70 = .ok (.iconst 0, 1) := by decide +kernel
theorem dX11_rehearse_71 : decode cX11_rehearse 71 = .ok (.istore 5, 2) := by decide +kernel
theorem dX11_rehearse_73 : decode cX11_rehearse 73 = .ok (.iload 5, 2) := by decide +kernel
theorem dX11_rehearse_75 : decode cX11_rehearse 75 = .ok (.bipush 8, 2) := by decide +kernel
theorem dX11_rehearse_77 : decode cX11_rehearse 77 = .ok (.if_icmp .ge 58, 3) := by decide +kernel
theorem dX11_rehearse_80 : decode cX11_rehearse 80 = .ok (.aload 4, 2) := by decide +kernel
theorem dX11_rehearse_82 : decode cX11_rehearse 82 = .ok (.getfield 132, 3) := by decide +kernel
theorem dX11_rehearse_85 : decode cX11_rehearse 85 = .ok (.iload 5, 2) := by decide +kernel
theorem dX11_rehearse_87 : decode cX11_rehearse 87 = .ok (.invokestatic 207, 3) := by decide +kernel
theorem dX11_rehearse_90 : decode cX11_rehearse 90 = .ok (.ifCond .eq 39, 3) := by decide +kernel
theorem dX11_rehearse_93 : decode cX11_rehearse 93 = .ok (.aload_n 0, 1) := by decide +kernel
theorem dX11_rehearse_94 : decode cX11_rehearse 94 = .ok (.getfield 19, 3) := by decide +kernel
theorem dX11_rehearse_97 : decode cX11_rehearse 97 = .ok (.aload_n 1, 1) := by decide +kernel
theorem dX11_rehearse_98 : decode cX11_rehearse 98 = .ok (.getfield 183, 3) := by decide +kernel
theorem dX11_rehearse_101 : decode cX11_rehearse 101 = .ok (.invokevirtual 90, 3) := by decide +kernel
theorem dX11_rehearse_104 : decode cX11_rehearse 104 = .ok (.checkcast 78, 3) := by decide +kernel
theorem dX11_rehearse_107 : decode cX11_rehearse 107 = .ok (.iload 5, 2) := by decide +kernel
theorem dX11_rehearse_109 : decode cX11_rehearse 109 = .ok (.iload 5, 2) := by decide +kernel
theorem dX11_rehearse_111 : decode cX11_rehearse 111 = .ok (.aload_n 0, 1) := by decide +kernel
theorem dX11_rehearse_112 : decode cX11_rehearse 112 = .ok (.getfield 210, 3) := by decide +kernel
theorem dX11_rehearse_115 : decode cX11_rehearse 115 = .ok (.iadd, 1) := by decide +kernel
theorem dX11_rehearse_116 : decode cX11_rehearse 116 = .ok (.iconst 2, 1) := by decide +kernel
theorem dX11_rehearse_117 : decode cX11_rehearse 117 = .ok (.irem, 1) := by decide +kernel
theorem dX11_rehearse_118 : decode cX11_rehearse 118 = .ok (.ifCond .ne 7, 3) := by decide +kernel
theorem dX11_rehearse_121 : decode cX11_rehearse 121 = .ok (.iconst 1, 1) := by decide +kernel
theorem dX11_rehearse_122 : decode cX11_rehearse 122 = .ok (.goto 4, 3) := by decide +kernel
theorem dX11_rehearse_125 : decode cX11_rehearse 125 = .ok (.iconst (-1), 1) := by decide +kernel
theorem dX11_rehearse_126 : decode cX11_rehearse 126 = .ok (.invokevirtual 213, 3) := by decide +kernel
theorem dX11_rehearse_129 : decode cX11_rehearse 129 = .ok (.iinc 5 1, 3) := by decide +kernel
theorem dX11_rehearse_132 : decode cX11_rehearse 132 = .ok (.goto (-59), 3) := by decide +kernel
theorem dX11_rehearse_135 : decode cX11_rehearse 135 = .ok (.return_, 1) := by decide +kernel
theorem dX11_rehearse__0 : decode cX11_rehearse_ 0 = .ok (.aload_n 0, 1) := by decide +kernel
theorem dX11_rehearse__1 : decode cX11_rehearse_ 1 = .ok (.iload_n 1, 1) := by decide +kernel
theorem dX11_rehearse__2 : decode cX11_rehearse_ 2 = .ok (.bipush 10, 2) := by decide +kernel
theorem dX11_rehearse__4 : decode cX11_rehearse_ 4 = .ok (.bipush 120, 2) := by decide +kernel
theorem dX11_rehearse__6 : decode cX11_rehearse_ 6 = .ok (.invokestatic 63, 3) := by decide +kernel
theorem dX11_rehearse__9 : decode cX11_rehearse_ 9 = .ok (.ifCond .ne 7, 3) := by decide +kernel
theorem dX11_rehearse__12 : decode cX11_rehearse_ 12 = .ok (.iconst 1, 1) := by decide +kernel
theorem dX11_rehearse__13 : decode cX11_rehearse_ 13 = .ok (.goto 4, 3) := by decide +kernel
theorem dX11_rehearse__16 : decode cX11_rehearse_ 16 = .ok (.iconst 0, 1) := by decide +kernel
theorem dX11_rehearse__17 : decode cX11_rehearse_ 17 = .ok (.iconst 1, 1) := by decide +kernel
theorem dX11_rehearse__18 : decode cX11_rehearse_ 18 = .ok (.invokevirtual 75, 3) := by decide +kernel
theorem dX11_rehearse__21 : decode cX11_rehearse_ 21 = .ok (.ifCond .ne 27, 3) := by decide +kernel
theorem dX11_rehearse__24 : decode cX11_rehearse_ 24 = .ok (.aload_n 0, 1) := by decide +kernel
theorem dX11_rehearse__25 : decode cX11_rehearse_ 25 = .ok (.aload_n 0, 1) := by decide +kernel
theorem dX11_rehearse__26 : decode cX11_rehearse_ 26 = .ok (.getfield 216, 3) := by decide +kernel
theorem dX11_rehearse__29 : decode cX11_rehearse_ 29 = .ok (.iload_n 1, 1) := by decide +kernel
theorem dX11_rehearse__30 : decode cX11_rehearse_ 30 = .ok (.iadd, 1) := by decide +kernel
theorem dX11_rehearse__31 : decode cX11_rehearse_ 31 = .ok (.bipush 120, 2) := by decide +kernel
theorem dX11_rehearse__33 : decode cX11_rehearse_ 33 = .ok (.if_icmp .le 7, 3) := by decide +kernel
theorem dX11_rehearse__36 : decode cX11_rehearse_ 36 = .ok (.iconst 1, 1) := by decide +kernel
theorem dX11_rehearse__37 : decode cX11_rehearse_ 37 = .ok (.goto 4, 3) := by decide +kernel
theorem dX11_rehearse__40 : decode cX11_rehearse_ 40 = .ok (.iconst 0, 1) := by decide +kernel
theorem dX11_rehearse__41 : decode cX11_rehearse_ 41 = .ok (.iconst 2, 1) := by decide +kernel
theorem dX11_rehearse__42 : decode cX11_rehearse_ 42 = .ok (.invokevirtual 59, 3) := by decide +kernel
theorem dX11_rehearse__45 : decode cX11_rehearse_ 45 = .ok (.ifCond .eq 5, 3) := by decide +kernel
theorem dX11_rehearse__48 : decode cX11_rehearse_ 48 = .ok (.iconst 0, 1) := by decide +kernel
theorem dX11_rehearse__49 : decode cX11_rehearse_ 49 = .ok (.ireturn, 1) := by decide +kernel
theorem dX11_rehearse__50 : decode cX11_rehearse_ 50 = .ok (.aload_n 0, 1) := by decide +kernel
theorem dX11_rehearse__51 : decode cX11_rehearse_ 51 = .ok (.dup, 1) := by decide +kernel
theorem dX11_rehearse__52 : decode cX11_rehearse_ 52 = .ok (.getfield 216, 3) := by decide +kernel
theorem dX11_rehearse__55 : decode cX11_rehearse_ 55 = .ok (.iload_n 1, 1) := by decide +kernel
theorem dX11_rehearse__56 : decode cX11_rehearse_ 56 = .ok (.iadd, 1) := by decide +kernel
theorem dX11_rehearse__57 : decode cX11_rehearse_ 57 = .ok (.putfield 216, 3) := by decide +kernel
theorem dX11_rehearse__60 : decode cX11_rehearse_ 60 = .ok (.aload_n 0, 1) := by decide +kernel
theorem dX11_rehearse__61 : decode cX11_rehearse_ 61 = .ok (.getfield 31, 3) := by decide +kernel
theorem dX11_rehearse__64 : decode cX11_rehearse_ 64 = .ok (.invokevirtual 138, 3) := by decide +kernel
theorem dX11_rehearse__67 : decode cX11_rehearse_ 67 = .ok (.astore_n 2, 1) := by decide +kernel
theorem dX11_rehearse__68 : decode cX11_rehearse_ 68 = .ok (.aload_n 2, 1) := by decide +kernel
theorem dX11_rehearse__69 : decode cX11_rehearse_ 69 = .ok (.invokeinterface 142 1, 5) := by decide +kernel
theorem dX11_rehearse__74 : decode cX11_rehearse_ 74 = .ok (.ifCond .eq 66, 3) := by decide +kernel
theorem dX11_rehearse__77 : decode cX11_rehearse_ 77 = .ok (.aload_n 2, 1) := by decide +kernel
theorem dX11_rehearse__78 : decode cX11_rehearse_ 78 = .ok (.invokeinterface 148 1, 5) := by decide +kernel
theorem dX11_rehearse__83 : decode cX11_rehearse_ 83 = .ok (.checkcast 152, 3) := by decide +kernel
theorem dX11_rehearse__86 : decode cX11_rehearse_ 86 = .ok (.astore_n 3, 1) := by decide +kernel
theorem dX11_rehearse__87 : decode cX11_rehearse_ 87 = .ok (.iconst 0, 1) := by decide +kernel
theorem dX11_rehearse__88 : decode cX11_rehearse_ 88 = .ok (.istore 4, 2) := by decide +kernel
theorem dX11_rehearse__90 : decode cX11_rehearse_ 90 = .ok (.iload 4, 2) := by decide +kernel
theorem dX11_rehearse__92 : decode cX11_rehearse_ 92 = .ok (.aload_n 0, 1) := by decide +kernel
theorem dX11_rehearse__93 : decode cX11_rehearse_ 93 = .ok (.getfield 28, 3) := by decide +kernel
theorem dX11_rehearse__96 : decode cX11_rehearse_ 96 = .ok (.invokevirtual 67, 3) := by decide +kernel
theorem dX11_rehearse__99 : decode cX11_rehearse_ 99 = .ok (.if_icmp .ge 38, 3) := by decide +kernel
theorem dX11_rehearse__102 : decode cX11_rehearse_ 102 = .ok (.aload_n 0, 1) := by decide +kernel
theorem dX11_rehearse__103 : decode cX11_rehearse_ 103 = .ok (.aload_n 3, 1) := by decide +kernel
theorem dX11_rehearse__104 : decode cX11_rehearse_ 104 = .ok (.invokevirtual 203, 3) := by decide +kernel
theorem dX11_rehearse__107 : decode cX11_rehearse_ 107 = .ok (.ifCond .eq 30, 3) := by decide +kernel
theorem dX11_rehearse__110 : decode cX11_rehearse_ 110 = .ok (.aload_n 0, 1) := by decide +kernel
theorem dX11_rehearse__111 : decode cX11_rehearse_ 111 = .ok (.aload_n 3, 1) := by decide +kernel
theorem dX11_rehearse__112 : decode cX11_rehearse_ 112 = .ok (.aload_n 0, 1) := by decide +kernel
theorem dX11_rehearse__113 : decode cX11_rehearse_ 113 = .ok (.getfield 28, 3) := by decide +kernel
theorem dX11_rehearse__116 : decode cX11_rehearse_ 116 = .ok (.iload 4, 2) := by decide +kernel
theorem dX11_rehearse__118 : decode cX11_rehearse_ 118 = .ok (.invokevirtual 90, 3) := by decide +kernel
theorem dX11_rehearse__121 : decode cX11_rehearse_ 121 = .ok (.checkcast 162, 3) := by decide +kernel
theorem dX11_rehearse__124 : decode cX11_rehearse_ 124 = .ok (.invokevirtual 170, 3) := by decide +kernel
theorem dX11_rehearse__127 : decode cX11_rehearse_ 127 = .ok (.iload_n 1, 1) := by decide +kernel
theorem dX11_rehearse__128 : decode cX11_rehearse_ 128 = .ok (.invokevirtual 219, 3) := by decide +kernel
theorem dX11_rehearse__131 : decode cX11_rehearse_ 131 = .ok (.iinc 4 1, 3) := by decide +kernel
theorem dX11_rehearse__134 : decode cX11_rehearse_ 134 = .ok (.goto (-44), 3) := by decide +kernel
theorem dX11_rehearse__137 : decode cX11_rehearse_ 137 = .ok (.goto (-69), 3) := by decide +kernel
theorem dX11_rehearse__140 : decode cX11_rehearse_ 140 = .ok (.aload_n 0, 1) := by decide +kernel
theorem dX11_rehearse__141 : decode cX11_rehearse_ 141 = .ok (.invokevirtual 223, 3) := by decide +kernel
theorem dX11_rehearse__144 : decode cX11_rehearse_ 144 = .ok (.ireturn, 1) := by decide +kernel
theorem dX11_fades_0 : decode cX11_fades 0 = .ok (.aload_n 0, 1) := by decide +kernel
theorem dX11_fades_1 : decode cX11_fades 1 = .ok (.getfield 25, 3) := by decide +kernel
theorem dX11_fades_4 : decode cX11_fades 4 = .ok (.iload_n 1, 1) := by decide +kernel
theorem dX11_fades_5 : decode cX11_fades 5 = .ok (.invokevirtual 90, 3) := by decide +kernel
theorem dX11_fades_8 : decode cX11_fades 8 = .ok (.checkcast 121, 3) := by decide +kernel
theorem dX11_fades_11 : decode cX11_fades 11 = .ok (.getfield 129, 3) := by decide +kernel
theorem dX11_fades_14 : decode cX11_fades 14 = .ok (.iconst 2, 1) := by decide +kernel
theorem dX11_fades_15 : decode cX11_fades 15 = .ok (.idiv, 1) := by decide +kernel
theorem dX11_fades_16 : decode cX11_fades 16 = .ok (.iconst 1, 1) := by decide +kernel
theorem dX11_fades_17 : decode cX11_fades 17 = .ok (.iadd, 1) := by decide +kernel
theorem dX11_fades_18 : decode cX11_fades 18 = .ok (.ireturn, 1) := by decide +kernel
theorem dX11_forget_0 : decode cX11_forget 0 = .ok (.aload_n 0, 1) := by decide +kernel
theorem dX11_forget_1 : decode cX11_forget 1 = .ok (.getfield 31, 3) := by decide +kernel
theorem dX11_forget_4 : decode cX11_forget 4 = .ok (.invokevirtual 138, 3) := by decide +kernel
theorem dX11_forget_7 : decode cX11_forget 7 = .ok (.astore_n 1, 1) := by decide +kernel
theorem dX11_forget_8 : decode cX11_forget 8 = .ok (.aload_n 1, 1) := by decide +kernel
theorem dX11_forget_9 : decode cX11_forget 9 = .ok (.invokeinterface 142 1, 5) := by decide +kernel
theorem dX11_forget_14 : decode cX11_forget 14 = .ok (.ifCond .eq 73, 3) := by decide +kernel
theorem dX11_forget_17 : decode cX11_forget 17 = .ok (.aload_n 1, 1) := by decide +kernel
theorem dX11_forget_18 : decode cX11_forget 18 = .ok (.invokeinterface 148 1, 5) := by decide +kernel
theorem dX11_forget_23 : decode cX11_forget 23 = .ok (.checkcast 152, 3) := by decide +kernel
theorem dX11_forget_26 : decode cX11_forget 26 = .ok (.astore_n 2, 1) := by decide +kernel
theorem dX11_forget_27 : decode cX11_forget 27 = .ok (.iconst 0, 1) := by decide +kernel
theorem dX11_forget_28 : decode cX11_forget 28 = .ok (.istore_n 3, 1) := by decide +kernel
theorem dX11_forget_29 : decode cX11_forget 29 = .ok (.iload_n 3, 1) := by decide +kernel
theorem dX11_forget_30 : decode cX11_forget 30 = .ok (.aload_n 0, 1) := by decide +kernel
theorem dX11_forget_31 : decode cX11_forget 31 = .ok (.getfield 25, 3) := by decide +kernel
theorem dX11_forget_34 : decode cX11_forget 34 = .ok (.invokevirtual 67, 3) := by decide +kernel
theorem dX11_forget_37 : decode cX11_forget 37 = .ok (.if_icmp .ge 47, 3) := by decide +kernel
theorem dX11_forget_40 : decode cX11_forget 40 = .ok (.aload_n 2, 1) := by decide +kernel
theorem dX11_forget_41 : decode cX11_forget 41 = .ok (.getfield 197, 3) := by decide +kernel
theorem dX11_forget_44 : decode cX11_forget 44 = .ok (.iload_n 3, 1) := by decide +kernel
theorem dX11_forget_45 : decode cX11_forget 45 = .ok (.baload, 1) := by decide +kernel
theorem dX11_forget_46 : decode cX11_forget 46 = .ok (.ifCond .ne 25, 3) := by decide +kernel
theorem dX11_forget_49 : decode cX11_forget 49 = .ok (.aload_n 2, 1) := by decide +kernel
theorem dX11_forget_50 : decode cX11_forget 50 = .ok (.getfield 154, 3) := by decide +kernel
theorem dX11_forget_53 : decode cX11_forget 53 = .ok (.iload_n 3, 1) := by decide +kernel
theorem dX11_forget_54 : decode cX11_forget 54 = .ok (.iconst 0, 1) := by decide +kernel
theorem dX11_forget_55 : decode cX11_forget 55 = .ok (.aload_n 2, 1) := by decide +kernel
theorem dX11_forget_56 : decode cX11_forget 56 = .ok (.getfield 154, 3) := by decide +kernel
theorem dX11_forget_59 : decode cX11_forget 59 = .ok (.iload_n 3, 1) := by decide +kernel
theorem dX11_forget_60 : decode cX11_forget 60 = .ok (.iaload, 1) := by decide +kernel
theorem dX11_forget_61 : decode cX11_forget 61 = .ok (.aload_n 0, 1) := by decide +kernel
theorem dX11_forget_62 : decode cX11_forget 62 = .ok (.iload_n 3, 1) := by decide +kernel
theorem dX11_forget_63 : decode cX11_forget 63 = .ok (.invokevirtual 226, 3) := by decide +kernel
theorem dX11_forget_66 : decode cX11_forget 66 = .ok (.isub, 1) := by decide +kernel
theorem dX11_forget_67 : decode cX11_forget 67 = .ok (.invokestatic 7, 3) := by decide +kernel
theorem dX11_forget_70 : decode cX11_forget 70 = .ok (.iastore, 1) := by decide +kernel
theorem dX11_forget_71 : decode cX11_forget 71 = .ok (.aload_n 2, 1) := by decide +kernel
theorem dX11_forget_72 : decode cX11_forget 72 = .ok (.getfield 197, 3) := by decide +kernel
theorem dX11_forget_75 : decode cX11_forget 75 = .ok (.iload_n 3, 1) := by decide +kernel
theorem dX11_forget_76 : decode cX11_forget 76 = .ok (.iconst 0, 1) := by decide +kernel
theorem dX11_forget_77 : decode cX11_forget 77 = .ok (.bastore, 1) := by decide +kernel
theorem dX11_forget_78 : decode cX11_forget 78 = .ok (.iinc 3 1, 3) := by decide +kernel
theorem dX11_forget_81 : decode cX11_forget 81 = .ok (.goto (-52), 3) := by decide +kernel
theorem dX11_forget_84 : decode cX11_forget 84 = .ok (.goto (-76), 3) := by decide +kernel
theorem dX11_forget_87 : decode cX11_forget 87 = .ok (.return_, 1) := by decide +kernel
theorem dX11_weather_0 : decode cX11_weather 0 = .ok (.aload_n 0, 1) := by decide +kernel
theorem dX11_weather_1 : decode cX11_weather 1 = .ok (.getfield 19, 3) := by decide +kernel
theorem dX11_weather_4 : decode cX11_weather 4 = .ok (.invokevirtual 138, 3) := by decide +kernel
theorem dX11_weather_7 : decode cX11_weather 7 = .ok (.astore_n 3, 1) := by decide +kernel
theorem dX11_weather_8 : decode cX11_weather 8 = .ok (.aload_n 3, 1) := by decide +kernel
theorem dX11_weather_9 : decode cX11_weather 9 = .ok (.invokeinterface 142 1, 5) := by decide +kernel
theorem dX11_weather_14 : decode cX11_weather 14 = .ok (.ifCond .eq 66, 3) := by decide +kernel
theorem dX11_weather_17 : decode cX11_weather 17 = .ok (.aload_n 3, 1) := by decide +kernel
theorem dX11_weather_18 : decode cX11_weather 18 = .ok (.invokeinterface 148 1, 5) := by decide +kernel
theorem dX11_weather_23 : decode cX11_weather 23 = .ok (.checkcast 78, 3) := by decide +kernel
theorem dX11_weather_26 : decode cX11_weather 26 = .ok (.astore 4, 2) := by decide +kernel
theorem dX11_weather_28 : decode cX11_weather 28 = .ok (.iconst 0, 1) := by decide +kernel
theorem dX11_weather_29 : decode cX11_weather 29 = .ok (.istore 5, 2) := by decide +kernel
theorem dX11_weather_31 : decode cX11_weather 31 = .ok (.iload 5, 2) := by decide +kernel
theorem dX11_weather_33 : decode cX11_weather 33 = .ok (.bipush 8, 2) := by decide +kernel
theorem dX11_weather_35 : decode cX11_weather 35 = .ok (.if_icmp .ge 23, 3) := by decide +kernel
theorem dX11_weather_38 : decode cX11_weather 38 = .ok (.iload_n 1, 1) := by decide +kernel
theorem dX11_weather_39 : decode cX11_weather 39 = .ok (.bipush 7, 2) := by decide +kernel
theorem dX11_weather_41 : decode cX11_weather 41 = .ok (.if_icmp .lt 17, 3) := by decide +kernel
theorem dX11_weather_44 : decode cX11_weather 44 = .ok (.aload 4, 2) := by decide +kernel
theorem dX11_weather_46 : decode cX11_weather 46 = .ok (.iload 5, 2) := by decide +kernel
theorem dX11_weather_48 : decode cX11_weather 48 = .ok (.iconst 1, 1) := by decide +kernel
theorem dX11_weather_49 : decode cX11_weather 49 = .ok (.invokevirtual 213, 3) := by decide +kernel
theorem dX11_weather_52 : decode cX11_weather 52 = .ok (.iinc 5 1, 3) := by decide +kernel
theorem dX11_weather_55 : decode cX11_weather 55 = .ok (.goto (-24), 3) := by decide +kernel
theorem dX11_weather_58 : decode cX11_weather 58 = .ok (.iload_n 2, 1) := by decide +kernel
theorem dX11_weather_59 : decode cX11_weather 59 = .ok (.iconst 5, 1) := by decide +kernel
theorem dX11_weather_60 : decode cX11_weather 60 = .ok (.if_icmp .lt 17, 3) := by decide +kernel
theorem dX11_weather_63 : decode cX11_weather 63 = .ok (.aload_n 0, 1) := by decide +kernel
theorem dX11_weather_64 : decode cX11_weather 64 = .ok (.getfield 114, 3) := by decide +kernel
theorem dX11_weather_67 : decode cX11_weather 67 = .ok (.ifCond .ne 10, 3) := by decide +kernel
theorem dX11_weather_70 : decode cX11_weather 70 = .ok (.aload 4, 2) := by decide +kernel
theorem dX11_weather_72 : decode cX11_weather 72 = .ok (.bipush 10, 2) := by decide +kernel
theorem dX11_weather_74 : decode cX11_weather 74 = .ok (.invokevirtual 229, 3) := by decide +kernel
theorem dX11_weather_77 : decode cX11_weather 77 = .ok (.goto (-69), 3) := by decide +kernel
theorem dX11_weather_80 : decode cX11_weather 80 = .ok (.return_, 1) := by decide +kernel
theorem dX11_pass_0 : decode cX11_pass 0 = .ok (.aload_n 0, 1) := by decide +kernel
theorem dX11_pass_1 : decode cX11_pass 1 = .ok (.iload_n 1, 1) := by decide +kernel
theorem dX11_pass_2 : decode cX11_pass 2 = .ok (.iconst 1, 1) := by decide +kernel
theorem dX11_pass_3 : decode cX11_pass 3 = .ok (.bipush 30, 2) := by decide +kernel
theorem dX11_pass_5 : decode cX11_pass 5 = .ok (.invokestatic 63, 3) := by decide +kernel
theorem dX11_pass_8 : decode cX11_pass 8 = .ok (.ifCond .eq 23, 3) := by decide +kernel
theorem dX11_pass_11 : decode cX11_pass 11 = .ok (.iload_n 2, 1) := by decide +kernel
theorem dX11_pass_12 : decode cX11_pass 12 = .ok (.iconst 0, 1) := by decide +kernel
theorem dX11_pass_13 : decode cX11_pass 13 = .ok (.bipush 9, 2) := by decide +kernel
theorem dX11_pass_15 : decode cX11_pass 15 = .ok (.invokestatic 63, 3) := by decide +kernel
theorem dX11_pass_18 : decode cX11_pass 18 = .ok (.ifCond .eq 13, 3) := by decide +kernel
theorem dX11_pass_21 : decode cX11_pass 21 = .ok (.iload_n 3, 1) := by decide +kernel
theorem dX11_pass_22 : decode cX11_pass 22 = .ok (.iconst 0, 1) := by decide +kernel
theorem dX11_pass_23 : decode cX11_pass 23 = .ok (.bipush 9, 2) := by decide +kernel
theorem dX11_pass_25 : decode cX11_pass 25 = .ok (.invokestatic 63, 3) := by decide +kernel
theorem dX11_pass_28 : decode cX11_pass 28 = .ok (.ifCond .ne 7, 3) := by decide +kernel
theorem dX11_pass_31 : decode cX11_pass 31 = .ok (.iconst 1, 1) := by decide +kernel
theorem dX11_pass_32 : decode cX11_pass 32 = .ok (.goto 4, 3) := by decide +kernel
theorem dX11_pass_35 : decode cX11_pass 35 = .ok (.iconst 0, 1) := by decide +kernel
theorem dX11_pass_36 : decode cX11_pass 36 = .ok (.iconst 1, 1) := by decide +kernel
theorem dX11_pass_37 : decode cX11_pass 37 = .ok (.invokevirtual 75, 3) := by decide +kernel
theorem dX11_pass_40 : decode cX11_pass 40 = .ok (.ifCond .eq 5, 3) := by decide +kernel
theorem dX11_pass_43 : decode cX11_pass 43 = .ok (.iconst 0, 1) := by decide +kernel
theorem dX11_pass_44 : decode cX11_pass 44 = .ok (.ireturn, 1) := by decide +kernel
theorem dX11_pass_45 : decode cX11_pass 45 = .ok (.iconst 0, 1) := by decide +kernel
theorem dX11_pass_46 : decode cX11_pass 46 = .ok (.istore 4, 2) := by decide +kernel
theorem dX11_pass_48 : decode cX11_pass 48 = .ok (.iload 4, 2) := by decide +kernel
theorem dX11_pass_50 : decode cX11_pass 50 = .ok (.iload_n 1, 1) := by decide +kernel
theorem dX11_pass_51 : decode cX11_pass 51 = .ok (.if_icmp .ge 57, 3) := by decide +kernel
theorem dX11_pass_54 : decode cX11_pass 54 = .ok (.aload_n 0, 1) := by decide +kernel
theorem dX11_pass_55 : decode cX11_pass 55 = .ok (.invokevirtual 233, 3) := by decide +kernel
theorem dX11_pass_58 : decode cX11_pass 58 = .ok (.aload_n 0, 1) := by decide +kernel
theorem dX11_pass_59 : decode cX11_pass 59 = .ok (.iload_n 2, 1) := by decide +kernel
theorem dX11_pass_60 : decode cX11_pass 60 = .ok (.iload_n 3, 1) := by decide +kernel
theorem dX11_pass_61 : decode cX11_pass 61 = .ok (.invokevirtual 236, 3) := by decide +kernel
theorem dX11_pass_64 : decode cX11_pass 64 = .ok (.iconst 0, 1) := by decide +kernel
theorem dX11_pass_65 : decode cX11_pass 65 = .ok (.istore 5, 2) := by decide +kernel
theorem dX11_pass_67 : decode cX11_pass 67 = .ok (.iload 5, 2) := by decide +kernel
theorem dX11_pass_69 : decode cX11_pass 69 = .ok (.iconst 4, 1) := by decide +kernel
theorem dX11_pass_70 : decode cX11_pass 70 = .ok (.if_icmp .ge 17, 3) := by decide +kernel
theorem dX11_pass_73 : decode cX11_pass 73 = .ok (.aload_n 0, 1) := by decide +kernel
theorem dX11_pass_74 : decode cX11_pass 74 = .ok (.getfield 37, 3) := by decide +kernel
theorem dX11_pass_77 : decode cX11_pass 77 = .ok (.iload 5, 2) := by decide +kernel
theorem dX11_pass_79 : decode cX11_pass 79 = .ok (.iconst 0, 1) := by decide +kernel
theorem dX11_pass_80 : decode cX11_pass 80 = .ok (.iastore, 1) := by decide +kernel
theorem dX11_pass_81 : decode cX11_pass 81 = .ok (.iinc 5 1, 3) := by decide +kernel
theorem dX11_pass_84 : decode cX11_pass 84 = .ok (.goto (-17), 3) := by decide +kernel
theorem dX11_pass_87 : decode cX11_pass 87 = .ok (.aload_n 0, 1) := by decide +kernel
theorem dX11_pass_88 : decode cX11_pass 88 = .ok (.iconst 0, 1) := by decide +kernel
theorem dX11_pass_89 : decode cX11_pass 89 = .ok (.putfield 216, 3) := by decide +kernel
theorem dX11_pass_92 : decode cX11_pass 92 = .ok (.aload_n 0, 1) := by decide +kernel
theorem dX11_pass_93 : decode cX11_pass 93 = .ok (.dup, 1) := by decide +kernel
theorem dX11_pass_94 : decode cX11_pass 94 = .ok (.getfield 210, 3) := by decide +kernel
theorem dX11_pass_97 : decode cX11_pass 97 = .ok (.iconst 1, 1) := by decide +kernel
theorem dX11_pass_98 : decode cX11_pass 98 = .ok (.iadd, 1) := by decide +kernel
theorem dX11_pass_99 : decode cX11_pass 99 = .ok (.putfield 210, 3) := by decide +kernel
theorem dX11_pass_102 : decode cX11_pass 102 = .ok (.iinc 4 1, 3) := by decide +kernel
theorem dX11_pass_105 : decode cX11_pass 105 = .ok (.goto (-57), 3) := by decide +kernel
theorem dX11_pass_108 : decode cX11_pass 108 = .ok (.aload_n 0, 1) := by decide +kernel
theorem dX11_pass_109 : decode cX11_pass 109 = .ok (.getfield 210, 3) := by decide +kernel
theorem dX11_pass_112 : decode cX11_pass 112 = .ok (.ireturn, 1) := by decide +kernel
theorem dX11_sponsor_0 : decode cX11_sponsor 0 = .ok (.aload_n 0, 1) := by decide +kernel
theorem dX11_sponsor_1 : decode cX11_sponsor 1 = .ok (.iload_n 1, 1) := by decide +kernel
theorem dX11_sponsor_2 : decode cX11_sponsor 2 = .ok (.iconst 1, 1) := by decide +kernel
theorem dX11_sponsor_3 : decode cX11_sponsor 3 = .ok (.sipush 500, 3) := by decide +kernel
theorem dX11_sponsor_6 : decode cX11_sponsor 6 = .ok (.invokestatic 63, 3) := by decide +kernel
theorem dX11_sponsor_9 : decode cX11_sponsor 9 = .ok (.ifCond .ne 7, 3) := by decide +kernel
theorem dX11_sponsor_12 : decode cX11_sponsor 12 = .ok (.iconst 1, 1) := by decide +kernel
theorem dX11_sponsor_13 : decode cX11_sponsor 13 = .ok (.goto 4, 3) := by decide +kernel
theorem dX11_sponsor_16 : decode cX11_sponsor 16 = .ok (.iconst 0, 1) := by decide +kernel
theorem dX11_sponsor_17 : decode cX11_sponsor 17 = .ok (.iconst 1, 1) := by decide +kernel
theorem dX11_sponsor_18 : decode cX11_sponsor 18 = .ok (.invokevirtual 75, 3) := by decide +kernel
theorem dX11_sponsor_21 : decode cX11_sponsor 21 = .ok (.ifCond .eq 5, 3) := by decide +kernel
theorem dX11_sponsor_24 : decode cX11_sponsor 24 = .ok (.iconst 0, 1) := by decide +kernel
theorem dX11_sponsor_25 : decode cX11_sponsor 25 = .ok (.ireturn, 1) := by decide +kernel
theorem dX11_sponsor_26 : decode cX11_sponsor 26 = .ok (.aload_n 0, 1) := by decide +kernel
theorem dX11_sponsor_27 : decode cX11_sponsor 27 = .ok (.dup, 1) := by decide +kernel
theorem dX11_sponsor_28 : decode cX11_sponsor 28 = .ok (.getfield 49, 3) := by decide +kernel
theorem dX11_sponsor_31 : decode cX11_sponsor 31 = .ok (.iload_n 1, 1) := by decide +kernel
theorem dX11_sponsor_32 : decode cX11_sponsor 32 = .ok (.iadd, 1) := by decide +kernel
theorem dX11_sponsor_33 : decode cX11_sponsor 33 = .ok (.putfield 49, 3) := by decide +kernel
theorem dX11_sponsor_36 : decode cX11_sponsor 36 = .ok (.aload_n 0, 1) := by decide +kernel
theorem dX11_sponsor_37 : decode cX11_sponsor 37 = .ok (.getfield 49, 3) := by decide +kernel
theorem dX11_sponsor_40 : decode cX11_sponsor 40 = .ok (.ireturn, 1) := by decide +kernel
theorem dX11_rival_0 : decode cX11_rival 0 = .ok (.aload_n 0, 1) := by decide +kernel
theorem dX11_rival_1 : decode cX11_rival 1 = .ok (.iload_n 1, 1) := by decide +kernel
theorem dX11_rival_2 : decode cX11_rival 2 = .ok (.iconst 0, 1) := by decide +kernel
theorem dX11_rival_3 : decode cX11_rival 3 = .ok (.sipush 400, 3) := by decide +kernel
theorem dX11_rival_6 : decode cX11_rival 6 = .ok (.invokestatic 63, 3) := by decide +kernel
theorem dX11_rival_9 : decode cX11_rival 9 = .ok (.ifCond .ne 7, 3) := by decide +kernel
theorem dX11_rival_12 : decode cX11_rival 12 = .ok (.iconst 1, 1) := by decide +kernel
theorem dX11_rival_13 : decode cX11_rival 13 = .ok (.goto 4, 3) := by decide +kernel
theorem dX11_rival_16 : decode cX11_rival 16 = .ok (.iconst 0, 1) := by decide +kernel
theorem dX11_rival_17 : decode cX11_rival 17 = .ok (.iconst 1, 1) := by decide +kernel
theorem dX11_rival_18 : decode cX11_rival 18 = .ok (.invokevirtual 75, 3) := by decide +kernel
theorem dX11_rival_21 : decode cX11_rival 21 = .ok (.ifCond .ne 28, 3) := by decide +kernel
theorem dX11_rival_24 : decode cX11_rival 24 = .ok (.aload_n 0, 1) := by decide +kernel
theorem dX11_rival_25 : decode cX11_rival 25 = .ok (.aload_n 0, 1) := by decide +kernel
theorem dX11_rival_26 : decode cX11_rival 26 = .ok (.getfield 34, 3) := by decide +kernel
theorem dX11_rival_29 : decode cX11_rival 29 = .ok (.invokevirtual 67, 3) := by decide +kernel
theorem dX11_rival_32 : decode cX11_rival 32 = .ok (.bipush 6, 2) := by decide +kernel
theorem dX11_rival_34 : decode cX11_rival 34 = .ok (.if_icmp .ne 7, 3) := by decide +kernel
theorem dX11_rival_37 : decode cX11_rival 37 = .ok (.iconst 1, 1) := by decide +kernel
theorem dX11_rival_38 : decode cX11_rival 38 = .ok (.goto 4, 3) := by decide +kernel
theorem dX11_rival_41 : decode cX11_rival 41 = .ok (.iconst 0, 1) := by decide +kernel
theorem dX11_rival_42 : decode cX11_rival 42 = .ok (.iconst 2, 1) := by decide +kernel
theorem dX11_rival_43 : decode cX11_rival 43 = .ok (.invokevirtual 59, 3) := by decide +kernel
theorem dX11_rival_46 : decode cX11_rival 46 = .ok (.ifCond .eq 5, 3) := by decide +kernel
theorem dX11_rival_49 : decode cX11_rival 49 = .ok (.iconst 0, 1) := by decide +kernel
theorem dX11_rival_50 : decode cX11_rival 50 = .ok (.ireturn, 1) := by decide +kernel
theorem dX11_rival_51 : decode cX11_rival 51 = .ok (.aload_n 0, 1) := by decide +kernel
theorem dX11_rival_52 : decode cX11_rival 52 = .ok (.getfield 34, 3) := by decide +kernel
theorem dX11_rival_55 : decode cX11_rival 55 = .ok (.iload_n 1, 1) := by decide +kernel
theorem dX11_rival_56 : decode cX11_rival 56 = .ok (.invokestatic 161, 3) := by decide +kernel
theorem dX11_rival_59 : decode cX11_rival 59 = .ok (.invokevirtual 83, 3) := by decide +kernel
theorem dX11_rival_62 : decode cX11_rival 62 = .ok (.pop, 1) := by decide +kernel
theorem dX11_rival_63 : decode cX11_rival 63 = .ok (.aload_n 0, 1) := by decide +kernel
theorem dX11_rival_64 : decode cX11_rival 64 = .ok (.getfield 34, 3) := by decide +kernel
theorem dX11_rival_67 : decode cX11_rival 67 = .ok (.invokevirtual 67, 3) := by decide +kernel
theorem dX11_rival_70 : decode cX11_rival 70 = .ok (.iconst 1, 1) := by decide +kernel
theorem dX11_rival_71 : decode cX11_rival 71 = .ok (.isub, 1) := by decide +kernel
theorem dX11_rival_72 : decode cX11_rival 72 = .ok (.ireturn, 1) := by decide +kernel
theorem dX11_lean_0 : decode cX11_lean 0 = .ok (.aload_n 0, 1) := by decide +kernel
theorem dX11_lean_1 : decode cX11_lean 1 = .ok (.iload_n 1, 1) := by decide +kernel
theorem dX11_lean_2 : decode cX11_lean 2 = .ok (.iconst 0, 1) := by decide +kernel
theorem dX11_lean_3 : decode cX11_lean 3 = .ok (.iconst 2, 1) := by decide +kernel
theorem dX11_lean_4 : decode cX11_lean 4 = .ok (.invokestatic 63, 3) := by decide +kernel
theorem dX11_lean_7 : decode cX11_lean 7 = .ok (.ifCond .ne 7, 3) := by decide +kernel
theorem dX11_lean_10 : decode cX11_lean 10 = .ok (.iconst 1, 1) := by decide +kernel
theorem dX11_lean_11 : decode cX11_lean 11 = .ok (.goto 4, 3) := by decide +kernel
theorem dX11_lean_14 : decode cX11_lean 14 = .ok (.iconst 0, 1) := by decide +kernel
theorem dX11_lean_15 : decode cX11_lean 15 = .ok (.iconst 1, 1) := by decide +kernel
theorem dX11_lean_16 : decode cX11_lean 16 = .ok (.invokevirtual 75, 3) := by decide +kernel
theorem dX11_lean_19 : decode cX11_lean 19 = .ok (.ifCond .ne 27, 3) := by decide +kernel
theorem dX11_lean_22 : decode cX11_lean 22 = .ok (.aload_n 0, 1) := by decide +kernel
theorem dX11_lean_23 : decode cX11_lean 23 = .ok (.iload_n 2, 1) := by decide +kernel
theorem dX11_lean_24 : decode cX11_lean 24 = .ok (.bipush (-9), 2) := by decide +kernel
theorem dX11_lean_26 : decode cX11_lean 26 = .ok (.bipush 9, 2) := by decide +kernel
theorem dX11_lean_28 : decode cX11_lean 28 = .ok (.invokestatic 63, 3) := by decide +kernel
theorem dX11_lean_31 : decode cX11_lean 31 = .ok (.ifCond .ne 7, 3) := by decide +kernel
theorem dX11_lean_34 : decode cX11_lean 34 = .ok (.iconst 1, 1) := by decide +kernel
theorem dX11_lean_35 : decode cX11_lean 35 = .ok (.goto 4, 3) := by decide +kernel
theorem dX11_lean_38 : decode cX11_lean 38 = .ok (.iconst 0, 1) := by decide +kernel
theorem dX11_lean_39 : decode cX11_lean 39 = .ok (.iconst 2, 1) := by decide +kernel
theorem dX11_lean_40 : decode cX11_lean 40 = .ok (.invokevirtual 59, 3) := by decide +kernel
theorem dX11_lean_43 : decode cX11_lean 43 = .ok (.ifCond .eq 5, 3) := by decide +kernel
theorem dX11_lean_46 : decode cX11_lean 46 = .ok (.iconst 0, 1) := by decide +kernel
theorem dX11_lean_47 : decode cX11_lean 47 = .ok (.ireturn, 1) := by decide +kernel
theorem dX11_lean_48 : decode cX11_lean 48 = .ok (.aload_n 0, 1) := by decide +kernel
theorem dX11_lean_49 : decode cX11_lean 49 = .ok (.getfield 41, 3) := by decide +kernel
theorem dX11_lean_52 : decode cX11_lean 52 = .ok (.iload_n 1, 1) := by decide +kernel
theorem dX11_lean_53 : decode cX11_lean 53 = .ok (.iaload, 1) := by decide +kernel
theorem dX11_lean_54 : decode cX11_lean 54 = .ok (.istore_n 3, 1) := by decide +kernel
theorem dX11_lean_55 : decode cX11_lean 55 = .ok (.aload_n 0, 1) := by decide +kernel
theorem dX11_lean_56 : decode cX11_lean 56 = .ok (.getfield 41, 3) := by decide +kernel
theorem dX11_lean_59 : decode cX11_lean 59 = .ok (.iload_n 1, 1) := by decide +kernel
theorem dX11_lean_60 : decode cX11_lean 60 = .ok (.iload_n 2, 1) := by decide +kernel
theorem dX11_lean_61 : decode cX11_lean 61 = .ok (.iastore, 1) := by decide +kernel
theorem dX11_lean_62 : decode cX11_lean 62 = .ok (.iload_n 3, 1) := by decide +kernel
theorem dX11_lean_63 : decode cX11_lean 63 = .ok (.ireturn, 1) := by decide +kernel
theorem dX11_sound_0 : decode cX11_sound 0 = .ok (.aload_n 0, 1) := by decide +kernel
theorem dX11_sound_1 : decode cX11_sound 1 = .ok (.getfield 25, 3) := by decide +kernel
theorem dX11_sound_4 : decode cX11_sound 4 = .ok (.iload_n 2, 1) := by decide +kernel
theorem dX11_sound_5 : decode cX11_sound 5 = .ok (.invokevirtual 90, 3) := by decide +kernel
theorem dX11_sound_8 : decode cX11_sound 8 = .ok (.checkcast 121, 3) := by decide +kernel
theorem dX11_sound_11 : decode cX11_sound 11 = .ok (.astore_n 3, 1) := by decide +kernel
theorem dX11_sound_12 : decode cX11_sound 12 = .ok (.iconst 0, 1) := by decide +kernel
theorem dX11_sound_13 : decode cX11_sound 13 = .ok (.istore 4, 2) := by decide +kernel
theorem dX11_sound_15 : decode cX11_sound 15 = .ok (.iconst 0, 1) := by decide +kernel
theorem dX11_sound_16 : decode cX11_sound 16 = .ok (.istore 5, 2) := by decide +kernel
theorem dX11_sound_18 : decode cX11_sound 18 = .ok (.aload_n 0, 1) := by decide +kernel
theorem dX11_sound_19 : decode cX11_sound 19 = .ok (.getfield 31, 3) := by decide +kernel
theorem dX11_sound_22 : decode cX11_sound 22 = .ok (.invokevirtual 138, 3) := by decide +kernel
theorem dX11_sound_25 : decode cX11_sound 25 = .ok (.astore 6, 2) := by decide +kernel
theorem dX11_sound_27 : decode cX11_sound 27 = .ok (.aload 6, 2) := by decide +kernel
theorem dX11_sound_29 : decode cX11_sound 29 = .ok (.invokeinterface 142 1, 5) := by decide +kernel
theorem dX11_sound_34 : decode cX11_sound 34 = .ok (.ifCond .eq 85, 3) := by decide +kernel
theorem dX11_sound_37 : decode cX11_sound 37 = .ok (.aload 6, 2) := by decide +kernel
theorem dX11_sound_39 : decode cX11_sound 39 = .ok (.invokeinterface 148 1, 5) := by decide +kernel
theorem dX11_sound_44 : decode cX11_sound 44 = .ok (.checkcast 152, 3) := by decide +kernel
theorem dX11_sound_47 : decode cX11_sound 47 = .ok (.astore 7, 2) := by decide +kernel
theorem dX11_sound_49 : decode cX11_sound 49 = .ok (.aload 7, 2) := by decide +kernel
theorem dX11_sound_51 : decode cX11_sound 51 = .ok (.getfield 180, 3) := by decide +kernel
theorem dX11_sound_54 : decode cX11_sound 54 = .ok (.aload_n 3, 1) := by decide +kernel
theorem dX11_sound_55 : decode cX11_sound 55 = .ok (.getfield 192, 3) := by decide +kernel
theorem dX11_sound_58 : decode cX11_sound 58 = .ok (.if_icmp .ne (-31), 3) := by decide +kernel
theorem dX11_sound_61 : decode cX11_sound 61 = .ok (.aload_n 0, 1) := by decide +kernel
theorem dX11_sound_62 : decode cX11_sound 62 = .ok (.aload 7, 2) := by decide +kernel
theorem dX11_sound_64 : decode cX11_sound 64 = .ok (.invokevirtual 203, 3) := by decide +kernel
theorem dX11_sound_67 : decode cX11_sound 67 = .ok (.ifCond .ne 6, 3) := by decide +kernel
theorem dX11_sound_70 : decode cX11_sound 70 = .ok (.goto (-43), 3) := by decide +kernel
theorem dX11_sound_73 : decode cX11_sound 73 = .ok (.iinc 4 1, 3) := by decide +kernel
theorem dX11_sound_76 : decode cX11_sound 76 = .ok (.iload 5, 2) := by decide +kernel
theorem dX11_sound_78 : decode cX11_sound 78 = .ok (.aload 7, 2) := by decide +kernel
theorem dX11_sound_80 : decode cX11_sound 80 = .ok (.getfield 154, 3) := by decide +kernel
theorem dX11_sound_83 : decode cX11_sound 83 = .ok (.iload_n 2, 1) := by decide +kernel
theorem dX11_sound_84 : decode cX11_sound 84 = .ok (.iaload, 1) := by decide +kernel
theorem dX11_sound_85 : decode cX11_sound 85 = .ok (.aload_n 0, 1) := by decide +kernel
theorem dX11_sound_86 : decode cX11_sound 86 = .ok (.getfield 19, 3) := by decide +kernel
theorem dX11_sound_89 : decode cX11_sound 89 = .ok (.aload 7, 2) := by decide +kernel
theorem dX11_sound_91 : decode cX11_sound 91 = .ok (.getfield 183, 3) := by decide +kernel
theorem dX11_sound_94 : decode cX11_sound 94 = .ok (.invokevirtual 90, 3) := by decide +kernel
theorem dX11_sound_97 : decode cX11_sound 97 = .ok (.checkcast 78, 3) := by decide +kernel
theorem dX11_sound_100 : decode cX11_sound 100 = .ok (.aload_n 3, 1) := by decide +kernel
theorem dX11_sound_101 : decode cX11_sound 101 = .ok (.getfield 132, 3) := by decide +kernel
theorem dX11_sound_104 : decode cX11_sound 104 = .ok (.invokevirtual 239, 3) := by decide +kernel
theorem dX11_sound_107 : decode cX11_sound 107 = .ok (.imul, 1) := by decide +kernel
theorem dX11_sound_108 : decode cX11_sound 108 = .ok (.aload_n 3, 1) := by decide +kernel
theorem dX11_sound_109 : decode cX11_sound 109 = .ok (.invokevirtual 242, 3) := by decide +kernel
theorem dX11_sound_112 : decode cX11_sound 112 = .ok (.idiv, 1) := by decide +kernel
theorem dX11_sound_113 : decode cX11_sound 113 = .ok (.iadd, 1) := by decide +kernel
theorem dX11_sound_114 : decode cX11_sound 114 = .ok (.istore 5, 2) := by decide +kernel
theorem dX11_sound_116 : decode cX11_sound 116 = .ok (.goto (-89), 3) := by decide +kernel
theorem dX11_sound_119 : decode cX11_sound 119 = .ok (.iconst 0, 1) := by decide +kernel
theorem dX11_sound_120 : decode cX11_sound 120 = .ok (.iload 4, 2) := by decide +kernel
theorem dX11_sound_122 : decode cX11_sound 122 = .ok (.ifCond .ne 7, 3) := by decide +kernel
theorem dX11_sound_125 : decode cX11_sound 125 = .ok (.iconst 0, 1) := by decide +kernel
theorem dX11_sound_126 : decode cX11_sound 126 = .ok (.goto 8, 3) := by decide +kernel
theorem dX11_sound_129 : decode cX11_sound 129 = .ok (.iload 5, 2) := by decide +kernel
theorem dX11_sound_131 : decode cX11_sound 131 = .ok (.iload 4, 2) := by decide +kernel
theorem dX11_sound_133 : decode cX11_sound 133 = .ok (.idiv, 1) := by decide +kernel
theorem dX11_sound_134 : decode cX11_sound 134 = .ok (.iload_n 1, 1) := by decide +kernel
theorem dX11_sound_135 : decode cX11_sound 135 = .ok (.aload_n 3, 1) := by decide +kernel
theorem dX11_sound_136 : decode cX11_sound 136 = .ok (.getfield 129, 3) := by decide +kernel
theorem dX11_sound_139 : decode cX11_sound 139 = .ok (.imul, 1) := by decide +kernel
theorem dX11_sound_140 : decode cX11_sound 140 = .ok (.iconst 4, 1) := by decide +kernel
theorem dX11_sound_141 : decode cX11_sound 141 = .ok (.idiv, 1) := by decide +kernel
theorem dX11_sound_142 : decode cX11_sound 142 = .ok (.isub, 1) := by decide +kernel
theorem dX11_sound_143 : decode cX11_sound 143 = .ok (.invokestatic 7, 3) := by decide +kernel
theorem dX11_sound_146 : decode cX11_sound 146 = .ok (.ireturn, 1) := by decide +kernel
theorem dX11_tone_0 : decode cX11_tone 0 = .ok (.iconst 0, 1) := by decide +kernel
theorem dX11_tone_1 : decode cX11_tone 1 = .ok (.istore_n 1, 1) := by decide +kernel
theorem dX11_tone_2 : decode cX11_tone 2 = .ok (.aload_n 0, 1) := by decide +kernel
theorem dX11_tone_3 : decode cX11_tone 3 = .ok (.getfield 31, 3) := by decide +kernel
theorem dX11_tone_6 : decode cX11_tone 6 = .ok (.invokevirtual 138, 3) := by decide +kernel
theorem dX11_tone_9 : decode cX11_tone 9 = .ok (.astore_n 2, 1) := by decide +kernel
theorem dX11_tone_10 : decode cX11_tone 10 = .ok (.aload_n 2, 1) := by decide +kernel
theorem dX11_tone_11 : decode cX11_tone 11 = .ok (.invokeinterface 142 1, 5) := by decide +kernel
theorem dX11_tone_16 : decode cX11_tone 16 = .ok (.ifCond .eq 48, 3) := by decide +kernel
theorem dX11_tone_19 : decode cX11_tone 19 = .ok (.aload_n 2, 1) := by decide +kernel
theorem dX11_tone_20 : decode cX11_tone 20 = .ok (.invokeinterface 148 1, 5) := by decide +kernel
theorem dX11_tone_25 : decode cX11_tone 25 = .ok (.checkcast 152, 3) := by decide +kernel
theorem dX11_tone_28 : decode cX11_tone 28 = .ok (.astore_n 3, 1) := by decide +kernel
theorem dX11_tone_29 : decode cX11_tone 29 = .ok (.iload_n 1, 1) := by decide +kernel
theorem dX11_tone_30 : decode cX11_tone 30 = .ok (.aload_n 0, 1) := by decide +kernel
theorem dX11_tone_31 : decode cX11_tone 31 = .ok (.aload_n 3, 1) := by decide +kernel
theorem dX11_tone_32 : decode cX11_tone 32 = .ok (.invokevirtual 203, 3) := by decide +kernel
theorem dX11_tone_35 : decode cX11_tone 35 = .ok (.ifCond .eq 23, 3) := by decide +kernel
theorem dX11_tone_38 : decode cX11_tone 38 = .ok (.aload_n 0, 1) := by decide +kernel
theorem dX11_tone_39 : decode cX11_tone 39 = .ok (.getfield 19, 3) := by decide +kernel
theorem dX11_tone_42 : decode cX11_tone 42 = .ok (.aload_n 3, 1) := by decide +kernel
theorem dX11_tone_43 : decode cX11_tone 43 = .ok (.getfield 183, 3) := by decide +kernel
theorem dX11_tone_46 : decode cX11_tone 46 = .ok (.invokevirtual 90, 3) := by decide +kernel
theorem dX11_tone_49 : decode cX11_tone 49 = .ok (.checkcast 78, 3) := by decide +kernel
theorem dX11_tone_52 : decode cX11_tone 52 = .ok (.invokevirtual 245, 3) := by decide +kernel
theorem dX11_tone_55 : decode cX11_tone 55 = .ok (.goto 4, 3) := by decide +kernel
theorem dX11_tone_58 : decode cX11_tone 58 = .ok (.iconst 0, 1) := by decide +kernel
theorem dX11_tone_59 : decode cX11_tone 59 = .ok (.iadd, 1) := by decide +kernel
theorem dX11_tone_60 : decode cX11_tone 60 = .ok (.istore_n 1, 1) := by decide +kernel
theorem dX11_tone_61 : decode cX11_tone 61 = .ok (.goto (-51), 3) := by decide +kernel
theorem dX11_tone_64 : decode cX11_tone 64 = .ok (.aload_n 0, 1) := by decide +kernel
theorem dX11_tone_65 : decode cX11_tone 65 = .ok (.invokevirtual 223, 3) := by decide +kernel
theorem dX11_tone_68 : decode cX11_tone 68 = .ok (.ifCond .ne 7, 3) := by decide +kernel
theorem dX11_tone_71 : decode cX11_tone 71 = .ok (.iconst 0, 1) := by decide +kernel
theorem dX11_tone_72 : decode cX11_tone 72 = .ok (.goto 12, 3) := by decide +kernel
theorem dX11_tone_75 : decode cX11_tone 75 = .ok (.bipush 12, 2) := by decide +kernel
theorem dX11_tone_77 : decode cX11_tone 77 = .ok (.iload_n 1, 1) := by decide +kernel
theorem dX11_tone_78 : decode cX11_tone 78 = .ok (.imul, 1) := by decide +kernel
theorem dX11_tone_79 : decode cX11_tone 79 = .ok (.aload_n 0, 1) := by decide +kernel
theorem dX11_tone_80 : decode cX11_tone 80 = .ok (.invokevirtual 223, 3) := by decide +kernel
theorem dX11_tone_83 : decode cX11_tone 83 = .ok (.idiv, 1) := by decide +kernel
theorem dX11_tone_84 : decode cX11_tone 84 = .ok (.ireturn, 1) := by decide +kernel
theorem dX11_arrangement_0 : decode cX11_arrangement 0 = .ok (.iconst 0, 1) := by decide +kernel
theorem dX11_arrangement_1 : decode cX11_arrangement 1 = .ok (.istore_n 2, 1) := by decide +kernel
theorem dX11_arrangement_2 : decode cX11_arrangement 2 = .ok (.iconst 0, 1) := by decide +kernel
theorem dX11_arrangement_3 : decode cX11_arrangement 3 = .ok (.istore_n 3, 1) := by decide +kernel
theorem dX11_arrangement_4 : decode cX11_arrangement 4 = .ok (.iconst 0, 1) := by decide +kernel
theorem dX11_arrangement_5 : decode cX11_arrangement 5 = .ok (.istore 4, 2) := by decide +kernel
theorem dX11_arrangement_7 : decode cX11_arrangement 7 = .ok (.iload 4, 2) := by decide +kernel
theorem dX11_arrangement_9 : decode cX11_arrangement 9 = .ok (.aload_n 1, 1) := by decide +kernel
theorem dX11_arrangement_10 : decode cX11_arrangement 10 = .ok (.arraylength, 1) := by decide +kernel
theorem dX11_arrangement_11 : decode cX11_arrangement 11 = .ok (.if_icmp .ge 72, 3) := by decide +kernel
theorem dX11_arrangement_14 : decode cX11_arrangement 14 = .ok (.iload_n 3, 1) := by decide +kernel
theorem dX11_arrangement_15 : decode cX11_arrangement 15 = .ok (.aload_n 1, 1) := by decide +kernel
theorem dX11_arrangement_16 : decode cX11_arrangement 16 = .ok (.iload 4, 2) := by decide +kernel
theorem dX11_arrangement_18 : decode cX11_arrangement 18 = .ok (.iaload, 1) := by decide +kernel
theorem dX11_arrangement_19 : decode cX11_arrangement 19 = .ok (.invokestatic 207, 3) := by decide +kernel
theorem dX11_arrangement_22 : decode cX11_arrangement 22 = .ok (.ifCond .ne 25, 3) := by decide +kernel
theorem dX11_arrangement_25 : decode cX11_arrangement 25 = .ok (.iload_n 2, 1) := by decide +kernel
theorem dX11_arrangement_26 : decode cX11_arrangement 26 = .ok (.iconst 3, 1) := by decide +kernel
theorem dX11_arrangement_27 : decode cX11_arrangement 27 = .ok (.aload_n 0, 1) := by decide +kernel
theorem dX11_arrangement_28 : decode cX11_arrangement 28 = .ok (.getfield 25, 3) := by decide +kernel
theorem dX11_arrangement_31 : decode cX11_arrangement 31 = .ok (.aload_n 1, 1) := by decide +kernel
theorem dX11_arrangement_32 : decode cX11_arrangement 32 = .ok (.iload 4, 2) := by decide +kernel
theorem dX11_arrangement_34 : decode cX11_arrangement 34 = .ok (.iaload, 1) := by decide +kernel
theorem dX11_arrangement_35 : decode cX11_arrangement 35 = .ok (.invokevirtual 90, 3) := by decide +kernel
theorem dX11_arrangement_38 : decode cX11_arrangement 38 = .ok (.checkcast 121, 3) := by decide +kernel
theorem dX11_arrangement_41 : decode cX11_arrangement 41 = .ok (.getfield 129, 3) := by decide +kernel
theorem dX11_arrangement_44 : decode cX11_arrangement 44 = .ok (.imul, 1) := by decide +kernel
theorem dX11_arrangement_45 : decode cX11_arrangement 45 = .ok (.iadd, 1) := by decide +kernel
theorem dX11_arrangement_46 : decode cX11_arrangement 46 = .ok (.istore_n 2, 1) := by decide +kernel
theorem dX11_arrangement_47 : decode cX11_arrangement 47 = .ok (.iload_n 3, 1) := by decide +kernel
theorem dX11_arrangement_48 : decode cX11_arrangement 48 = .ok (.iconst 1, 1) := by decide +kernel
theorem dX11_arrangement_49 : decode cX11_arrangement 49 = .ok (.aload_n 1, 1) := by decide +kernel
theorem dX11_arrangement_50 : decode cX11_arrangement 50 = .ok (.iload 4, 2) := by decide +kernel
theorem dX11_arrangement_52 : decode cX11_arrangement 52 = .ok (.iaload, 1) := by decide +kernel
theorem dX11_arrangement_53 : decode cX11_arrangement 53 = .ok (.ishl, 1) := by decide +kernel
theorem dX11_arrangement_54 : decode cX11_arrangement 54 = .ok (.ior, 1) := by decide +kernel
theorem dX11_arrangement_55 : decode cX11_arrangement 55 = .ok (.istore_n 3, 1) := by decide +kernel
theorem dX11_arrangement_56 : decode cX11_arrangement 56 = .ok (.iload 4, 2) := by decide +kernel
theorem dX11_arrangement_58 : decode cX11_arrangement 58 = .ok (.ifCond .le 19, 3) := by decide +kernel
theorem dX11_arrangement_61 : decode cX11_arrangement 61 = .ok (.aload_n 1, 1) := by decide +kernel
theorem dX11_arrangement_62 : decode cX11_arrangement 62 = .ok (.iload 4, 2) := by decide +kernel
theorem dX11_arrangement_64 : decode cX11_arrangement 64 = .ok (.iaload, 1) := by decide +kernel
theorem dX11_arrangement_65 : decode cX11_arrangement 65 = .ok (.aload_n 1, 1) := by decide +kernel
theorem dX11_arrangement_66 : decode cX11_arrangement 66 = .ok (.iload 4, 2) := by decide +kernel
theorem dX11_arrangement_68 : decode cX11_arrangement 68 = .ok (.iconst 1, 1) := by decide +kernel
theorem dX11_arrangement_69 : decode cX11_arrangement 69 = .ok (.isub, 1) := by decide +kernel
theorem dX11_arrangement_70 : decode cX11_arrangement 70 = .ok (.iaload, 1) := by decide +kernel
theorem dX11_arrangement_71 : decode cX11_arrangement 71 = .ok (.if_icmp .ne 6, 3) := by decide +kernel
theorem dX11_arrangement_74 : decode cX11_arrangement 74 = .ok (.iinc 2 (-8), 3) := by decide +kernel
theorem dX11_arrangement_77 : decode cX11_arrangement 77 = .ok (.iinc 4 1, 3) := by decide +kernel
theorem dX11_arrangement_80 : decode cX11_arrangement 80 = .ok (.goto (-73), 3) := by decide +kernel
theorem dX11_arrangement_83 : decode cX11_arrangement 83 = .ok (.iload_n 2, 1) := by decide +kernel
theorem dX11_arrangement_84 : decode cX11_arrangement 84 = .ok (.iconst 0, 1) := by decide +kernel
theorem dX11_arrangement_85 : decode cX11_arrangement 85 = .ok (.bipush 100, 2) := by decide +kernel
theorem dX11_arrangement_87 : decode cX11_arrangement 87 = .ok (.invokestatic 248, 3) := by decide +kernel
theorem dX11_arrangement_90 : decode cX11_arrangement 90 = .ok (.ireturn, 1) := by decide +kernel
theorem dX11_mark_0 : decode cX11_mark 0 = .ok (.iload_n 1, 1) := by decide +kernel
theorem dX11_mark_1 : decode cX11_mark 1 = .ok (.iconst 1, 1) := by decide +kernel
theorem dX11_mark_2 : decode cX11_mark 2 = .ok (.if_icmp .ne 8, 3) := by decide +kernel
theorem dX11_mark_5 : decode cX11_mark 5 = .ok (.aload_n 0, 1) := by decide +kernel
theorem dX11_mark_6 : decode cX11_mark 6 = .ok (.invokevirtual 252, 3) := by decide +kernel
theorem dX11_mark_9 : decode cX11_mark 9 = .ok (.ireturn, 1) := by decide +kernel
theorem dX11_mark_10 : decode cX11_mark 10 = .ok (.iload_n 1, 1) := by decide +kernel
theorem dX11_mark_11 : decode cX11_mark 11 = .ok (.iconst 2, 1) := by decide +kernel
theorem dX11_mark_12 : decode cX11_mark 12 = .ok (.if_icmp .ne 9, 3) := by decide +kernel
theorem dX11_mark_15 : decode cX11_mark 15 = .ok (.aload_n 0, 1) := by decide +kernel
theorem dX11_mark_16 : decode cX11_mark 16 = .ok (.aload_n 2, 1) := by decide +kernel
theorem dX11_mark_17 : decode cX11_mark 17 = .ok (.invokevirtual 255, 3) := by decide +kernel
theorem dX11_mark_20 : decode cX11_mark 20 = .ok (.ireturn, 1) := by decide +kernel
theorem dX11_mark_21 : decode cX11_mark 21 = .ok (.iconst 0, 1) := by decide +kernel
theorem dX11_mark_22 : decode cX11_mark 22 = .ok (.istore_n 3, 1) := by decide +kernel
theorem dX11_mark_23 : decode cX11_mark 23 = .ok (.sipush 400, 3) := by decide +kernel
theorem dX11_mark_26 : decode cX11_mark 26 = .ok (.istore 4, 2) := by decide +kernel
theorem dX11_mark_28 : decode cX11_mark 28 = .ok (.iconst 0, 1) := by decide +kernel
theorem dX11_mark_29 : decode cX11_mark 29 = .ok (.istore 5, 2) := by decide +kernel
theorem dX11_mark_31 : decode cX11_mark 31 = .ok (.iload 5, 2) := by decide +kernel
theorem dX11_mark_33 : decode cX11_mark 33 = .ok (.aload_n 2, 1) := by decide +kernel
theorem dX11_mark_34 : decode cX11_mark 34 = .ok (.arraylength, 1) := by decide +kernel
theorem dX11_mark_35 : decode cX11_mark 35 = .ok (.if_icmp .ge 35, 3) := by decide +kernel
theorem dX11_mark_38 : decode cX11_mark 38 = .ok (.aload_n 0, 1) := by decide +kernel
theorem dX11_mark_39 : decode cX11_mark 39 = .ok (.iload 5, 2) := by decide +kernel
theorem dX11_mark_41 : decode cX11_mark 41 = .ok (.aload_n 2, 1) := by decide +kernel
theorem dX11_mark_42 : decode cX11_mark 42 = .ok (.iload 5, 2) := by decide +kernel
theorem dX11_mark_44 : decode cX11_mark 44 = .ok (.iaload, 1) := by decide +kernel
theorem dX11_mark_45 : decode cX11_mark 45 = .ok (.invokevirtual 259, 3) := by decide +kernel
theorem dX11_mark_48 : decode cX11_mark 48 = .ok (.istore 6, 2) := by decide +kernel
theorem dX11_mark_50 : decode cX11_mark 50 = .ok (.iload_n 3, 1) := by decide +kernel
theorem dX11_mark_51 : decode cX11_mark 51 = .ok (.iload 6, 2) := by decide +kernel
theorem dX11_mark_53 : decode cX11_mark 53 = .ok (.iadd, 1) := by decide +kernel
theorem dX11_mark_54 : decode cX11_mark 54 = .ok (.istore_n 3, 1) := by decide +kernel
theorem dX11_mark_55 : decode cX11_mark 55 = .ok (.iload 4, 2) := by decide +kernel
theorem dX11_mark_57 : decode cX11_mark 57 = .ok (.iload 6, 2) := by decide +kernel
theorem dX11_mark_59 : decode cX11_mark 59 = .ok (.invokestatic 1, 3) := by decide +kernel
theorem dX11_mark_62 : decode cX11_mark 62 = .ok (.istore 4, 2) := by decide +kernel
theorem dX11_mark_64 : decode cX11_mark 64 = .ok (.iinc 5 1, 3) := by decide +kernel
theorem dX11_mark_67 : decode cX11_mark 67 = .ok (.goto (-36), 3) := by decide +kernel
theorem dX11_mark_70 : decode cX11_mark 70 = .ok (.aload_n 2, 1) := by decide +kernel
theorem dX11_mark_71 : decode cX11_mark 71 = .ok (.arraylength, 1) := by decide +kernel
theorem dX11_mark_72 : decode cX11_mark 72 = .ok (.ifCond .ne 5, 3) := by decide +kernel
theorem dX11_mark_75 : decode cX11_mark 75 = .ok (.iconst 0, 1) := by decide +kernel
theorem dX11_mark_76 : decode cX11_mark 76 = .ok (.ireturn, 1) := by decide +kernel
theorem dX11_mark_77 : decode cX11_mark 77 = .ok (.iload_n 1, 1) := by decide +kernel
theorem dX11_mark_78 : decode cX11_mark 78 = .ok (.ifCond .ne 10, 3) := by decide +kernel
theorem dX11_mark_81 : decode cX11_mark 81 = .ok (.iload_n 3, 1) := by decide +kernel
theorem dX11_mark_82 : decode cX11_mark 82 = .ok (.aload_n 2, 1) := by decide +kernel
theorem dX11_mark_83 : decode cX11_mark 83 = .ok (.arraylength, 1) := by decide +kernel
theorem dX11_mark_84 : decode cX11_mark 84 = .ok (.idiv, 1) := by decide +kernel
theorem dX11_mark_85 : decode cX11_mark 85 = .ok (.goto 5, 3) := by decide +kernel
theorem dX11_mark_88 : decode cX11_mark 88 = .ok (.iload 4, 2) := by decide +kernel
theorem dX11_mark_90 : decode cX11_mark 90 = .ok (.ireturn, 1) := by decide +kernel
theorem dX11_total_0 : decode cX11_total 0 = .ok (.aload_n 0, 1) := by decide +kernel
theorem dX11_total_1 : decode cX11_total 1 = .ok (.iconst 0, 1) := by decide +kernel
theorem dX11_total_2 : decode cX11_total 2 = .ok (.aload_n 1, 1) := by decide +kernel
theorem dX11_total_3 : decode cX11_total 3 = .ok (.invokevirtual 262, 3) := by decide +kernel
theorem dX11_total_6 : decode cX11_total 6 = .ok (.aload_n 0, 1) := by decide +kernel
theorem dX11_total_7 : decode cX11_total 7 = .ok (.iconst 1, 1) := by decide +kernel
theorem dX11_total_8 : decode cX11_total 8 = .ok (.aload_n 1, 1) := by decide +kernel
theorem dX11_total_9 : decode cX11_total 9 = .ok (.invokevirtual 262, 3) := by decide +kernel
theorem dX11_total_12 : decode cX11_total 12 = .ok (.iadd, 1) := by decide +kernel
theorem dX11_total_13 : decode cX11_total 13 = .ok (.aload_n 0, 1) := by decide +kernel
theorem dX11_total_14 : decode cX11_total 14 = .ok (.iconst 2, 1) := by decide +kernel
theorem dX11_total_15 : decode cX11_total 15 = .ok (.aload_n 1, 1) := by decide +kernel
theorem dX11_total_16 : decode cX11_total 16 = .ok (.invokevirtual 262, 3) := by decide +kernel
theorem dX11_total_19 : decode cX11_total 19 = .ok (.iadd, 1) := by decide +kernel
theorem dX11_total_20 : decode cX11_total 20 = .ok (.aload_n 0, 1) := by decide +kernel
theorem dX11_total_21 : decode cX11_total 21 = .ok (.iconst 3, 1) := by decide +kernel
theorem dX11_total_22 : decode cX11_total 22 = .ok (.aload_n 1, 1) := by decide +kernel
theorem dX11_total_23 : decode cX11_total 23 = .ok (.invokevirtual 262, 3) := by decide +kernel
theorem dX11_total_26 : decode cX11_total 26 = .ok (.iadd, 1) := by decide +kernel
theorem dX11_total_27 : decode cX11_total 27 = .ok (.ireturn, 1) := by decide +kernel
theorem dX11_row_0 : decode cX11_row 0 = .ok (.aload_n 0, 1) := by decide +kernel
theorem dX11_row_1 : decode cX11_row 1 = .ok (.getfield 28, 3) := by decide +kernel
theorem dX11_row_4 : decode cX11_row 4 = .ok (.invokevirtual 67, 3) := by decide +kernel
theorem dX11_row_7 : decode cX11_row 7 = .ok (.newarray .int, 2) := by decide +kernel
theorem dX11_row_9 : decode cX11_row 9 = .ok (.astore_n 1, 1) := by decide +kernel
theorem dX11_row_10 : decode cX11_row 10 = .ok (.iconst 0, 1) := by decide +kernel
theorem dX11_row_11 : decode cX11_row 11 = .ok (.istore_n 2, 1) := by decide +kernel
theorem dX11_row_12 : decode cX11_row 12 = .ok (.iload_n 2, 1) := by decide +kernel
theorem dX11_row_13 : decode cX11_row 13 = .ok (.aload_n 1, 1) := by decide +kernel
theorem dX11_row_14 : decode cX11_row 14 = .ok (.arraylength, 1) := by decide +kernel
theorem dX11_row_15 : decode cX11_row 15 = .ok (.if_icmp .ge 26, 3) := by decide +kernel
theorem dX11_row_18 : decode cX11_row 18 = .ok (.aload_n 1, 1) := by decide +kernel
theorem dX11_row_19 : decode cX11_row 19 = .ok (.iload_n 2, 1) := by decide +kernel
theorem dX11_row_20 : decode cX11_row 20 = .ok (.aload_n 0, 1) := by decide +kernel
theorem dX11_row_21 : decode cX11_row 21 = .ok (.getfield 28, 3) := by decide +kernel
theorem dX11_row_24 : decode cX11_row 24 = .ok (.iload_n 2, 1) := by decide +kernel
theorem dX11_row_25 : decode cX11_row 25 = .ok (.invokevirtual 90, 3) := by decide +kernel
theorem dX11_row_28 : decode cX11_row 28 = .ok (.checkcast 162, 3) := by decide +kernel
theorem dX11_row_31 : decode cX11_row 31 = .ok (.invokevirtual 170, 3) := by decide +kernel
theorem dX11_row_34 : decode cX11_row 34 = .ok (.iastore, 1) := by decide +kernel
theorem dX11_row_35 : decode cX11_row 35 = .ok (.iinc 2 1, 3) := by decide +kernel
theorem dX11_row_38 : decode cX11_row 38 = .ok (.goto (-26), 3) := by decide +kernel
theorem dX11_row_41 : decode cX11_row 41 = .ok (.aload_n 1, 1) := by decide +kernel
theorem dX11_row_42 : decode cX11_row 42 = .ok (.areturn, 1) := by decide +kernel
theorem dX11_score_0 : decode cX11_score 0 = .ok (.aload_n 0, 1) := by decide +kernel
theorem dX11_score_1 : decode cX11_score 1 = .ok (.getfield 41, 3) := by decide +kernel
theorem dX11_score_4 : decode cX11_score 4 = .ok (.iconst 0, 1) := by decide +kernel
theorem dX11_score_5 : decode cX11_score 5 = .ok (.iaload, 1) := by decide +kernel
theorem dX11_score_6 : decode cX11_score 6 = .ok (.aload_n 0, 1) := by decide +kernel
theorem dX11_score_7 : decode cX11_score 7 = .ok (.getfield 41, 3) := by decide +kernel
theorem dX11_score_10 : decode cX11_score 10 = .ok (.iconst 1, 1) := by decide +kernel
theorem dX11_score_11 : decode cX11_score 11 = .ok (.iaload, 1) := by decide +kernel
theorem dX11_score_12 : decode cX11_score 12 = .ok (.aload_n 0, 1) := by decide +kernel
theorem dX11_score_13 : decode cX11_score 13 = .ok (.getfield 41, 3) := by decide +kernel
theorem dX11_score_16 : decode cX11_score 16 = .ok (.iconst 2, 1) := by decide +kernel
theorem dX11_score_17 : decode cX11_score 17 = .ok (.iaload, 1) := by decide +kernel
theorem dX11_score_18 : decode cX11_score 18 = .ok (.invokestatic 1, 3) := by decide +kernel
theorem dX11_score_21 : decode cX11_score 21 = .ok (.invokestatic 1, 3) := by decide +kernel
theorem dX11_score_24 : decode cX11_score 24 = .ok (.istore_n 1, 1) := by decide +kernel
theorem dX11_score_25 : decode cX11_score 25 = .ok (.aload_n 0, 1) := by decide +kernel
theorem dX11_score_26 : decode cX11_score 26 = .ok (.getfield 41, 3) := by decide +kernel
theorem dX11_score_29 : decode cX11_score 29 = .ok (.iconst 0, 1) := by decide +kernel
theorem dX11_score_30 : decode cX11_score 30 = .ok (.iaload, 1) := by decide +kernel
theorem dX11_score_31 : decode cX11_score 31 = .ok (.aload_n 0, 1) := by decide +kernel
theorem dX11_score_32 : decode cX11_score 32 = .ok (.getfield 41, 3) := by decide +kernel
theorem dX11_score_35 : decode cX11_score 35 = .ok (.iconst 1, 1) := by decide +kernel
theorem dX11_score_36 : decode cX11_score 36 = .ok (.iaload, 1) := by decide +kernel
theorem dX11_score_37 : decode cX11_score 37 = .ok (.aload_n 0, 1) := by decide +kernel
theorem dX11_score_38 : decode cX11_score 38 = .ok (.getfield 41, 3) := by decide +kernel
theorem dX11_score_41 : decode cX11_score 41 = .ok (.iconst 2, 1) := by decide +kernel
theorem dX11_score_42 : decode cX11_score 42 = .ok (.iaload, 1) := by decide +kernel
theorem dX11_score_43 : decode cX11_score 43 = .ok (.invokestatic 7, 3) := by decide +kernel
theorem dX11_score_46 : decode cX11_score 46 = .ok (.invokestatic 7, 3) := by decide +kernel
theorem dX11_score_49 : decode cX11_score 49 = .ok (.istore_n 2, 1) := by decide +kernel
theorem dX11_score_50 : decode cX11_score 50 = .ok (.aload_n 0, 1) := by decide +kernel
theorem dX11_score_51 : decode cX11_score 51 = .ok (.aload_n 0, 1) := by decide +kernel
theorem dX11_score_52 : decode cX11_score 52 = .ok (.invokevirtual 266, 3) := by decide +kernel
theorem dX11_score_55 : decode cX11_score 55 = .ok (.invokevirtual 270, 3) := by decide +kernel
theorem dX11_score_58 : decode cX11_score 58 = .ok (.aload_n 0, 1) := by decide +kernel
theorem dX11_score_59 : decode cX11_score 59 = .ok (.getfield 41, 3) := by decide +kernel
theorem dX11_score_62 : decode cX11_score 62 = .ok (.iconst 0, 1) := by decide +kernel
theorem dX11_score_63 : decode cX11_score 63 = .ok (.iaload, 1) := by decide +kernel
theorem dX11_score_64 : decode cX11_score 64 = .ok (.iadd, 1) := by decide +kernel
theorem dX11_score_65 : decode cX11_score 65 = .ok (.aload_n 0, 1) := by decide +kernel
theorem dX11_score_66 : decode cX11_score 66 = .ok (.getfield 41, 3) := by decide +kernel
theorem dX11_score_69 : decode cX11_score 69 = .ok (.iconst 1, 1) := by decide +kernel
theorem dX11_score_70 : decode cX11_score 70 = .ok (.iaload, 1) := by decide +kernel
theorem dX11_score_71 : decode cX11_score 71 = .ok (.iadd, 1) := by decide +kernel
theorem dX11_score_72 : decode cX11_score 72 = .ok (.aload_n 0, 1) := by decide +kernel
theorem dX11_score_73 : decode cX11_score 73 = .ok (.getfield 41, 3) := by decide +kernel
theorem dX11_score_76 : decode cX11_score 76 = .ok (.iconst 2, 1) := by decide +kernel
theorem dX11_score_77 : decode cX11_score 77 = .ok (.iaload, 1) := by decide +kernel
theorem dX11_score_78 : decode cX11_score 78 = .ok (.iadd, 1) := by decide +kernel
theorem dX11_score_79 : decode cX11_score 79 = .ok (.iload_n 1, 1) := by decide +kernel
theorem dX11_score_80 : decode cX11_score 80 = .ok (.isub, 1) := by decide +kernel
theorem dX11_score_81 : decode cX11_score 81 = .ok (.iload_n 2, 1) := by decide +kernel
theorem dX11_score_82 : decode cX11_score 82 = .ok (.isub, 1) := by decide +kernel
theorem dX11_score_83 : decode cX11_score 83 = .ok (.ireturn, 1) := by decide +kernel
theorem dX11_play_0 : decode cX11_play 0 = .ok (.aload_n 0, 1) := by decide +kernel
theorem dX11_play_1 : decode cX11_play 1 = .ok (.aload_n 0, 1) := by decide +kernel
theorem dX11_play_2 : decode cX11_play 2 = .ok (.getfield 273, 3) := by decide +kernel
theorem dX11_play_5 : decode cX11_play 5 = .ok (.ifCond .ne 31, 3) := by decide +kernel
theorem dX11_play_8 : decode cX11_play 8 = .ok (.aload_n 0, 1) := by decide +kernel
theorem dX11_play_9 : decode cX11_play 9 = .ok (.getfield 53, 3) := by decide +kernel
theorem dX11_play_12 : decode cX11_play 12 = .ok (.aload_n 0, 1) := by decide +kernel
theorem dX11_play_13 : decode cX11_play 13 = .ok (.getfield 210, 3) := by decide +kernel
theorem dX11_play_16 : decode cX11_play 16 = .ok (.if_icmp .eq 20, 3) := by decide +kernel
theorem dX11_play_19 : decode cX11_play 19 = .ok (.aload_n 0, 1) := by decide +kernel
theorem dX11_play_20 : decode cX11_play 20 = .ok (.invokevirtual 223, 3) := by decide +kernel
theorem dX11_play_23 : decode cX11_play 23 = .ok (.ifCond .eq 13, 3) := by decide +kernel
theorem dX11_play_26 : decode cX11_play 26 = .ok (.aload_n 0, 1) := by decide +kernel
theorem dX11_play_27 : decode cX11_play 27 = .ok (.getfield 28, 3) := by decide +kernel
theorem dX11_play_30 : decode cX11_play 30 = .ok (.invokevirtual 276, 3) := by decide +kernel
theorem dX11_play_33 : decode cX11_play 33 = .ok (.ifCond .eq 7, 3) := by decide +kernel
theorem dX11_play_36 : decode cX11_play 36 = .ok (.iconst 1, 1) := by decide +kernel
theorem dX11_play_37 : decode cX11_play 37 = .ok (.goto 4, 3) := by decide +kernel
theorem dX11_play_40 : decode cX11_play 40 = .ok (.iconst 0, 1) := by decide +kernel
theorem dX11_play_41 : decode cX11_play 41 = .ok (.iconst 1, 1) := by decide +kernel
theorem dX11_play_42 : decode cX11_play 42 = .ok (.invokevirtual 75, 3) := by decide +kernel
theorem dX11_play_45 : decode cX11_play 45 = .ok (.ifCond .eq 5, 3) := by decide +kernel
theorem dX11_play_48 : decode cX11_play 48 = .ok (.iconst 0, 1) := by decide +kernel
theorem dX11_play_49 : decode cX11_play 49 = .ok (.ireturn, 1) := by decide +kernel
theorem dX11_play_50 : decode cX11_play 50 = .ok (.aload_n 0, 1) := by decide +kernel
theorem dX11_play_51 : decode cX11_play 51 = .ok (.invokevirtual 279, 3) := by decide +kernel
theorem dX11_play_54 : decode cX11_play 54 = .ok (.istore_n 1, 1) := by decide +kernel
theorem dX11_play_55 : decode cX11_play 55 = .ok (.iconst 1, 1) := by decide +kernel
theorem dX11_play_56 : decode cX11_play 56 = .ok (.istore_n 2, 1) := by decide +kernel
theorem dX11_play_57 : decode cX11_play 57 = .ok (.aload_n 0, 1) := by decide +kernel
theorem dX11_play_58 : decode cX11_play 58 = .ok (.getfield 34, 3) := by decide +kernel
theorem dX11_play_61 : decode cX11_play 61 = .ok (.invokevirtual 138, 3) := by decide +kernel
theorem dX11_play_64 : decode cX11_play 64 = .ok (.astore_n 3, 1) := by decide +kernel
theorem dX11_play_65 : decode cX11_play 65 = .ok (.aload_n 3, 1) := by decide +kernel
theorem dX11_play_66 : decode cX11_play 66 = .ok (.invokeinterface 142 1, 5) := by decide +kernel
theorem dX11_play_71 : decode cX11_play 71 = .ok (.ifCond .eq 42, 3) := by decide +kernel
theorem dX11_play_74 : decode cX11_play 74 = .ok (.aload_n 3, 1) := by decide +kernel
theorem dX11_play_75 : decode cX11_play 75 = .ok (.invokeinterface 148 1, 5) := by decide +kernel
theorem dX11_play_80 : decode cX11_play 80 = .ok (.checkcast 162, 3) := by decide +kernel
theorem dX11_play_83 : decode cX11_play 83 = .ok (.invokevirtual 170, 3) := by decide +kernel
theorem dX11_play_86 : decode cX11_play 86 = .ok (.istore 4, 2) := by decide +kernel
theorem dX11_play_88 : decode cX11_play 88 = .ok (.iload_n 2, 1) := by decide +kernel
theorem dX11_play_89 : decode cX11_play 89 = .ok (.iload 4, 2) := by decide +kernel
theorem dX11_play_91 : decode cX11_play 91 = .ok (.bipush 15, 2) := by decide +kernel
theorem dX11_play_93 : decode cX11_play 93 = .ok (.aload_n 0, 1) := by decide +kernel
theorem dX11_play_94 : decode cX11_play 94 = .ok (.getfield 282, 3) := by decide +kernel
theorem dX11_play_97 : decode cX11_play 97 = .ok (.imul, 1) := by decide +kernel
theorem dX11_play_98 : decode cX11_play 98 = .ok (.iadd, 1) := by decide +kernel
theorem dX11_play_99 : decode cX11_play 99 = .ok (.iload_n 1, 1) := by decide +kernel
theorem dX11_play_100 : decode cX11_play 100 = .ok (.if_icmp .le 7, 3) := by decide +kernel
theorem dX11_play_103 : decode cX11_play 103 = .ok (.iconst 1, 1) := by decide +kernel
theorem dX11_play_104 : decode cX11_play 104 = .ok (.goto 4, 3) := by decide +kernel
theorem dX11_play_107 : decode cX11_play 107 = .ok (.iconst 0, 1) := by decide +kernel
theorem dX11_play_108 : decode cX11_play 108 = .ok (.iadd, 1) := by decide +kernel
theorem dX11_play_109 : decode cX11_play 109 = .ok (.istore_n 2, 1) := by decide +kernel
theorem dX11_play_110 : decode cX11_play 110 = .ok (.goto (-45), 3) := by decide +kernel
theorem dX11_play_113 : decode cX11_play 113 = .ok (.aload_n 0, 1) := by decide +kernel
theorem dX11_play_114 : decode cX11_play 114 = .ok (.getfield 45, 3) := by decide +kernel
theorem dX11_play_117 : decode cX11_play 117 = .ok (.aload_n 0, 1) := by decide +kernel
theorem dX11_play_118 : decode cX11_play 118 = .ok (.getfield 282, 3) := by decide +kernel
theorem dX11_play_121 : decode cX11_play 121 = .ok (.aaload, 1) := by decide +kernel
theorem dX11_play_122 : decode cX11_play 122 = .ok (.iconst 0, 1) := by decide +kernel
theorem dX11_play_123 : decode cX11_play 123 = .ok (.iload_n 1, 1) := by decide +kernel
theorem dX11_play_124 : decode cX11_play 124 = .ok (.iastore, 1) := by decide +kernel
theorem dX11_play_125 : decode cX11_play 125 = .ok (.aload_n 0, 1) := by decide +kernel
theorem dX11_play_126 : decode cX11_play 126 = .ok (.getfield 45, 3) := by decide +kernel
theorem dX11_play_129 : decode cX11_play 129 = .ok (.aload_n 0, 1) := by decide +kernel
theorem dX11_play_130 : decode cX11_play 130 = .ok (.getfield 282, 3) := by decide +kernel
theorem dX11_play_133 : decode cX11_play 133 = .ok (.aaload, 1) := by decide +kernel
theorem dX11_play_134 : decode cX11_play 134 = .ok (.iconst 1, 1) := by decide +kernel
theorem dX11_play_135 : decode cX11_play 135 = .ok (.iload_n 2, 1) := by decide +kernel
theorem dX11_play_136 : decode cX11_play 136 = .ok (.iastore, 1) := by decide +kernel
theorem dX11_play_137 : decode cX11_play 137 = .ok (.aload_n 0, 1) := by decide +kernel
theorem dX11_play_138 : decode cX11_play 138 = .ok (.dup, 1) := by decide +kernel
theorem dX11_play_139 : decode cX11_play 139 = .ok (.getfield 49, 3) := by decide +kernel
theorem dX11_play_142 : decode cX11_play 142 = .ok (.bipush 50, 2) := by decide +kernel
theorem dX11_play_144 : decode cX11_play 144 = .ok (.iadd, 1) := by decide +kernel
theorem dX11_play_145 : decode cX11_play 145 = .ok (.putfield 49, 3) := by decide +kernel
theorem dX11_play_148 : decode cX11_play 148 = .ok (.aload_n 0, 1) := by decide +kernel
theorem dX11_play_149 : decode cX11_play 149 = .ok (.getfield 282, 3) := by decide +kernel
theorem dX11_play_152 : decode cX11_play 152 = .ok (.iconst 2, 1) := by decide +kernel
theorem dX11_play_153 : decode cX11_play 153 = .ok (.if_icmp .ne 27, 3) := by decide +kernel
theorem dX11_play_156 : decode cX11_play 156 = .ok (.iload_n 2, 1) := by decide +kernel
theorem dX11_play_157 : decode cX11_play 157 = .ok (.getstatic 285, 3) := by decide +kernel
theorem dX11_play_160 : decode cX11_play 160 = .ok (.arraylength, 1) := by decide +kernel
theorem dX11_play_161 : decode cX11_play 161 = .ok (.if_icmp .gt 19, 3) := by decide +kernel
theorem dX11_play_164 : decode cX11_play 164 = .ok (.aload_n 0, 1) := by decide +kernel
theorem dX11_play_165 : decode cX11_play 165 = .ok (.dup, 1) := by decide +kernel
theorem dX11_play_166 : decode cX11_play 166 = .ok (.getfield 49, 3) := by decide +kernel
theorem dX11_play_169 : decode cX11_play 169 = .ok (.getstatic 285, 3) := by decide +kernel
theorem dX11_play_172 : decode cX11_play 172 = .ok (.iload_n 2, 1) := by decide +kernel
theorem dX11_play_173 : decode cX11_play 173 = .ok (.iconst 1, 1) := by decide +kernel
theorem dX11_play_174 : decode cX11_play 174 = .ok (.isub, 1) := by decide +kernel
theorem dX11_play_175 : decode cX11_play 175 = .ok (.iaload, 1) := by decide +kernel
theorem dX11_play_176 : decode cX11_play 176 = .ok (.iadd, 1) := by decide +kernel
theorem dX11_play_177 : decode cX11_play 177 = .ok (.putfield 49, 3) := by decide +kernel
theorem dX11_play_180 : decode cX11_play 180 = .ok (.aload_n 0, 1) := by decide +kernel
theorem dX11_play_181 : decode cX11_play 181 = .ok (.iload_n 2, 1) := by decide +kernel
theorem dX11_play_182 : decode cX11_play 182 = .ok (.getstatic 288, 3) := by decide +kernel
theorem dX11_play_185 : decode cX11_play 185 = .ok (.aload_n 0, 1) := by decide +kernel
theorem dX11_play_186 : decode cX11_play 186 = .ok (.getfield 282, 3) := by decide +kernel
theorem dX11_play_189 : decode cX11_play 189 = .ok (.iaload, 1) := by decide +kernel
theorem dX11_play_190 : decode cX11_play 190 = .ok (.if_icmp .le 7, 3) := by decide +kernel
theorem dX11_play_193 : decode cX11_play 193 = .ok (.iconst 1, 1) := by decide +kernel
theorem dX11_play_194 : decode cX11_play 194 = .ok (.goto 4, 3) := by decide +kernel
theorem dX11_play_197 : decode cX11_play 197 = .ok (.iconst 0, 1) := by decide +kernel
theorem dX11_play_198 : decode cX11_play 198 = .ok (.putfield 273, 3) := by decide +kernel
theorem dX11_play_201 : decode cX11_play 201 = .ok (.aload_n 0, 1) := by decide +kernel
theorem dX11_play_202 : decode cX11_play 202 = .ok (.dup, 1) := by decide +kernel
theorem dX11_play_203 : decode cX11_play 203 = .ok (.getfield 282, 3) := by decide +kernel
theorem dX11_play_206 : decode cX11_play 206 = .ok (.iconst 1, 1) := by decide +kernel
theorem dX11_play_207 : decode cX11_play 207 = .ok (.iadd, 1) := by decide +kernel
theorem dX11_play_208 : decode cX11_play 208 = .ok (.putfield 282, 3) := by decide +kernel
theorem dX11_play_211 : decode cX11_play 211 = .ok (.aload_n 0, 1) := by decide +kernel
theorem dX11_play_212 : decode cX11_play 212 = .ok (.aload_n 0, 1) := by decide +kernel
theorem dX11_play_213 : decode cX11_play 213 = .ok (.getfield 210, 3) := by decide +kernel
theorem dX11_play_216 : decode cX11_play 216 = .ok (.putfield 53, 3) := by decide +kernel
theorem dX11_play_219 : decode cX11_play 219 = .ok (.iload_n 2, 1) := by decide +kernel
theorem dX11_play_220 : decode cX11_play 220 = .ok (.ireturn, 1) := by decide +kernel
theorem dX11_ofPanNow_0 : decode cX11_ofPanNow 0 = .ok (.aload_n 0, 1) := by decide +kernel
theorem dX11_ofPanNow_1 : decode cX11_ofPanNow 1 = .ok (.getfield 19, 3) := by decide +kernel
theorem dX11_ofPanNow_4 : decode cX11_ofPanNow 4 = .ok (.iload_n 1, 1) := by decide +kernel
theorem dX11_ofPanNow_5 : decode cX11_ofPanNow 5 = .ok (.invokevirtual 90, 3) := by decide +kernel
theorem dX11_ofPanNow_8 : decode cX11_ofPanNow 8 = .ok (.checkcast 78, 3) := by decide +kernel
theorem dX11_ofPanNow_11 : decode cX11_ofPanNow 11 = .ok (.astore_n 3, 1) := by decide +kernel
theorem dX11_ofPanNow_12 : decode cX11_ofPanNow 12 = .ok (.iload_n 2, 1) := by decide +kernel
theorem dX11_ofPanNow_13 : decode cX11_ofPanNow 13 = .ok (.ifCond .ne 10, 3) := by decide +kernel
theorem dX11_ofPanNow_16 : decode cX11_ofPanNow 16 = .ok (.aload_n 3, 1) := by decide +kernel
theorem dX11_ofPanNow_17 : decode cX11_ofPanNow 17 = .ok (.getfield 177, 3) := by decide +kernel
theorem dX11_ofPanNow_20 : decode cX11_ofPanNow 20 = .ok (.goto 51, 3) := by decide +kernel
theorem dX11_ofPanNow_23 : decode cX11_ofPanNow 23 = .ok (.iload_n 2, 1) := by decide +kernel
theorem dX11_ofPanNow_24 : decode cX11_ofPanNow 24 = .ok (.iconst 1, 1) := by decide +kernel
theorem dX11_ofPanNow_25 : decode cX11_ofPanNow 25 = .ok (.if_icmp .ne 10, 3) := by decide +kernel
theorem dX11_ofPanNow_28 : decode cX11_ofPanNow 28 = .ok (.aload_n 3, 1) := by decide +kernel
theorem dX11_ofPanNow_29 : decode cX11_ofPanNow 29 = .ok (.getfield 107, 3) := by decide +kernel
theorem dX11_ofPanNow_32 : decode cX11_ofPanNow 32 = .ok (.goto 39, 3) := by decide +kernel
theorem dX11_ofPanNow_35 : decode cX11_ofPanNow 35 = .ok (.iload_n 2, 1) := by decide +kernel
theorem dX11_ofPanNow_36 : decode cX11_ofPanNow 36 = .ok (.iconst 2, 1) := by decide +kernel
theorem dX11_ofPanNow_37 : decode cX11_ofPanNow 37 = .ok (.if_icmp .ne 18, 3) := by decide +kernel
theorem dX11_ofPanNow_40 : decode cX11_ofPanNow 40 = .ok (.aload_n 3, 1) := by decide +kernel
theorem dX11_ofPanNow_41 : decode cX11_ofPanNow 41 = .ok (.getfield 94, 3) := by decide +kernel
theorem dX11_ofPanNow_44 : decode cX11_ofPanNow 44 = .ok (.ifCond .eq 7, 3) := by decide +kernel
theorem dX11_ofPanNow_47 : decode cX11_ofPanNow 47 = .ok (.iconst 1, 1) := by decide +kernel
theorem dX11_ofPanNow_48 : decode cX11_ofPanNow 48 = .ok (.goto 23, 3) := by decide +kernel
theorem dX11_ofPanNow_51 : decode cX11_ofPanNow 51 = .ok (.iconst 0, 1) := by decide +kernel
theorem dX11_ofPanNow_52 : decode cX11_ofPanNow 52 = .ok (.goto 19, 3) := by decide +kernel
theorem dX11_ofPanNow_55 : decode cX11_ofPanNow 55 = .ok (.iload_n 2, 1) := by decide +kernel
theorem dX11_ofPanNow_56 : decode cX11_ofPanNow 56 = .ok (.iconst 3, 1) := by decide +kernel
theorem dX11_ofPanNow_57 : decode cX11_ofPanNow 57 = .ok (.if_icmp .ne 10, 3) := by decide +kernel
theorem dX11_ofPanNow_60 : decode cX11_ofPanNow 60 = .ok (.aload_n 3, 1) := by decide +kernel
theorem dX11_ofPanNow_61 : decode cX11_ofPanNow 61 = .ok (.invokevirtual 245, 3) := by decide +kernel
theorem dX11_ofPanNow_64 : decode cX11_ofPanNow 64 = .ok (.goto 7, 3) := by decide +kernel
theorem dX11_ofPanNow_67 : decode cX11_ofPanNow 67 = .ok (.aload_n 3, 1) := by decide +kernel
theorem dX11_ofPanNow_68 : decode cX11_ofPanNow 68 = .ok (.getfield 291, 3) := by decide +kernel
theorem dX11_ofPanNow_71 : decode cX11_ofPanNow 71 = .ok (.ireturn, 1) := by decide +kernel
theorem dX11_ofPan_0 : decode cX11_ofPan 0 = .ok (.aload_n 0, 1) := by decide +kernel
theorem dX11_ofPan_1 : decode cX11_ofPan 1 = .ok (.aload_n 0, 1) := by decide +kernel
theorem dX11_ofPan_2 : decode cX11_ofPan 2 = .ok (.iload_n 1, 1) := by decide +kernel
theorem dX11_ofPan_3 : decode cX11_ofPan 3 = .ok (.invokevirtual 87, 3) := by decide +kernel
theorem dX11_ofPan_6 : decode cX11_ofPan 6 = .ok (.iconst 1, 1) := by decide +kernel
theorem dX11_ofPan_7 : decode cX11_ofPan 7 = .ok (.invokevirtual 75, 3) := by decide +kernel
theorem dX11_ofPan_10 : decode cX11_ofPan 10 = .ok (.ifCond .ne 25, 3) := by decide +kernel
theorem dX11_ofPan_13 : decode cX11_ofPan 13 = .ok (.aload_n 0, 1) := by decide +kernel
theorem dX11_ofPan_14 : decode cX11_ofPan 14 = .ok (.iload_n 2, 1) := by decide +kernel
theorem dX11_ofPan_15 : decode cX11_ofPan 15 = .ok (.iconst 0, 1) := by decide +kernel
theorem dX11_ofPan_16 : decode cX11_ofPan 16 = .ok (.iconst 4, 1) := by decide +kernel
theorem dX11_ofPan_17 : decode cX11_ofPan 17 = .ok (.invokestatic 63, 3) := by decide +kernel
theorem dX11_ofPan_20 : decode cX11_ofPan 20 = .ok (.ifCond .ne 7, 3) := by decide +kernel
theorem dX11_ofPan_23 : decode cX11_ofPan 23 = .ok (.iconst 1, 1) := by decide +kernel
theorem dX11_ofPan_24 : decode cX11_ofPan 24 = .ok (.goto 4, 3) := by decide +kernel
theorem dX11_ofPan_27 : decode cX11_ofPan 27 = .ok (.iconst 0, 1) := by decide +kernel
theorem dX11_ofPan_28 : decode cX11_ofPan 28 = .ok (.iconst 2, 1) := by decide +kernel
theorem dX11_ofPan_29 : decode cX11_ofPan 29 = .ok (.invokevirtual 59, 3) := by decide +kernel
theorem dX11_ofPan_32 : decode cX11_ofPan 32 = .ok (.ifCond .eq 7, 3) := by decide +kernel
theorem dX11_ofPan_35 : decode cX11_ofPan 35 = .ok (.iconst 0, 1) := by decide +kernel
theorem dX11_ofPan_36 : decode cX11_ofPan 36 = .ok (.goto 9, 3) := by decide +kernel
theorem dX11_ofPan_39 : decode cX11_ofPan 39 = .ok (.aload_n 0, 1) := by decide +kernel
theorem dX11_ofPan_40 : decode cX11_ofPan 40 = .ok (.iload_n 1, 1) := by decide +kernel
theorem dX11_ofPan_41 : decode cX11_ofPan 41 = .ok (.iload_n 2, 1) := by decide +kernel
theorem dX11_ofPan_42 : decode cX11_ofPan 42 = .ok (.invokevirtual 294, 3) := by decide +kernel
theorem dX11_ofPan_45 : decode cX11_ofPan 45 = .ok (.ireturn, 1) := by decide +kernel
theorem dX11_off_0 : decode cX11_off 0 = .ok (.aload_n 0, 1) := by decide +kernel
theorem dX11_off_1 : decode cX11_off 1 = .ok (.aload_n 0, 1) := by decide +kernel
theorem dX11_off_2 : decode cX11_off 2 = .ok (.iload_n 1, 1) := by decide +kernel
theorem dX11_off_3 : decode cX11_off 3 = .ok (.invokevirtual 87, 3) := by decide +kernel
theorem dX11_off_6 : decode cX11_off 6 = .ok (.ifCond .ne 13, 3) := by decide +kernel
theorem dX11_off_9 : decode cX11_off 9 = .ok (.iload_n 2, 1) := by decide +kernel
theorem dX11_off_10 : decode cX11_off 10 = .ok (.iconst 0, 1) := by decide +kernel
theorem dX11_off_11 : decode cX11_off 11 = .ok (.bipush 7, 2) := by decide +kernel
theorem dX11_off_13 : decode cX11_off 13 = .ok (.invokestatic 63, 3) := by decide +kernel
theorem dX11_off_16 : decode cX11_off 16 = .ok (.ifCond .ne 7, 3) := by decide +kernel
theorem dX11_off_19 : decode cX11_off 19 = .ok (.iconst 1, 1) := by decide +kernel
theorem dX11_off_20 : decode cX11_off 20 = .ok (.goto 4, 3) := by decide +kernel
theorem dX11_off_23 : decode cX11_off 23 = .ok (.iconst 0, 1) := by decide +kernel
theorem dX11_off_24 : decode cX11_off 24 = .ok (.iconst 1, 1) := by decide +kernel
theorem dX11_off_25 : decode cX11_off 25 = .ok (.invokevirtual 75, 3) := by decide +kernel
theorem dX11_off_28 : decode cX11_off 28 = .ok (.ifCond .eq 7, 3) := by decide +kernel
theorem dX11_off_31 : decode cX11_off 31 = .ok (.iconst 0, 1) := by decide +kernel
theorem dX11_off_32 : decode cX11_off 32 = .ok (.goto 19, 3) := by decide +kernel
theorem dX11_off_35 : decode cX11_off 35 = .ok (.aload_n 0, 1) := by decide +kernel
theorem dX11_off_36 : decode cX11_off 36 = .ok (.getfield 19, 3) := by decide +kernel
theorem dX11_off_39 : decode cX11_off 39 = .ok (.iload_n 1, 1) := by decide +kernel
theorem dX11_off_40 : decode cX11_off 40 = .ok (.invokevirtual 90, 3) := by decide +kernel
theorem dX11_off_43 : decode cX11_off 43 = .ok (.checkcast 78, 3) := by decide +kernel
theorem dX11_off_46 : decode cX11_off 46 = .ok (.getfield 101, 3) := by decide +kernel
theorem dX11_off_49 : decode cX11_off 49 = .ok (.iload_n 2, 1) := by decide +kernel
theorem dX11_off_50 : decode cX11_off 50 = .ok (.iaload, 1) := by decide +kernel
theorem dX11_off_51 : decode cX11_off 51 = .ok (.ireturn, 1) := by decide +kernel
theorem dX11_ofPhraseNow_0 : decode cX11_ofPhraseNow 0 = .ok (.aload_n 0, 1) := by decide +kernel
theorem dX11_ofPhraseNow_1 : decode cX11_ofPhraseNow 1 = .ok (.getfield 25, 3) := by decide +kernel
theorem dX11_ofPhraseNow_4 : decode cX11_ofPhraseNow 4 = .ok (.iload_n 1, 1) := by decide +kernel
theorem dX11_ofPhraseNow_5 : decode cX11_ofPhraseNow 5 = .ok (.invokevirtual 90, 3) := by decide +kernel
theorem dX11_ofPhraseNow_8 : decode cX11_ofPhraseNow 8 = .ok (.checkcast 121, 3) := by decide +kernel
theorem dX11_ofPhraseNow_11 : decode cX11_ofPhraseNow 11 = .ok (.astore_n 3, 1) := by decide +kernel
theorem dX11_ofPhraseNow_12 : decode cX11_ofPhraseNow 12 = .ok (.iconst 0, 1) := by decide +kernel
theorem dX11_ofPhraseNow_13 : decode cX11_ofPhraseNow 13 = .ok (.istore 4, 2) := by decide +kernel
theorem dX11_ofPhraseNow_15 : decode cX11_ofPhraseNow 15 = .ok (.iconst 0, 1) := by decide +kernel
theorem dX11_ofPhraseNow_16 : decode cX11_ofPhraseNow 16 = .ok (.istore 5, 2) := by decide +kernel
theorem dX11_ofPhraseNow_18 : decode cX11_ofPhraseNow 18 = .ok (.iload 5, 2) := by decide +kernel
theorem dX11_ofPhraseNow_20 : decode cX11_ofPhraseNow 20 = .ok (.aload_n 0, 1) := by decide +kernel
theorem dX11_ofPhraseNow_21 : decode cX11_ofPhraseNow 21 = .ok (.getfield 28, 3) := by decide +kernel
theorem dX11_ofPhraseNow_24 : decode cX11_ofPhraseNow 24 = .ok (.invokevirtual 67, 3) := by decide +kernel
theorem dX11_ofPhraseNow_27 : decode cX11_ofPhraseNow 27 = .ok (.if_icmp .ge 38, 3) := by decide +kernel
theorem dX11_ofPhraseNow_30 : decode cX11_ofPhraseNow 30 = .ok (.iload 4, 2) := by decide +kernel
theorem dX11_ofPhraseNow_32 : decode cX11_ofPhraseNow 32 = .ok (.aload_n 0, 1) := by decide +kernel
theorem dX11_ofPhraseNow_33 : decode cX11_ofPhraseNow 33 = .ok (.getfield 28, 3) := by decide +kernel
theorem dX11_ofPhraseNow_36 : decode cX11_ofPhraseNow 36 = .ok (.iload 5, 2) := by decide +kernel
theorem dX11_ofPhraseNow_38 : decode cX11_ofPhraseNow 38 = .ok (.invokevirtual 90, 3) := by decide +kernel
theorem dX11_ofPhraseNow_41 : decode cX11_ofPhraseNow 41 = .ok (.checkcast 162, 3) := by decide +kernel
theorem dX11_ofPhraseNow_44 : decode cX11_ofPhraseNow 44 = .ok (.invokevirtual 170, 3) := by decide +kernel
theorem dX11_ofPhraseNow_47 : decode cX11_ofPhraseNow 47 = .ok (.iload_n 1, 1) := by decide +kernel
theorem dX11_ofPhraseNow_48 : decode cX11_ofPhraseNow 48 = .ok (.if_icmp .ne 7, 3) := by decide +kernel
theorem dX11_ofPhraseNow_51 : decode cX11_ofPhraseNow 51 = .ok (.iconst 1, 1) := by decide +kernel
theorem dX11_ofPhraseNow_52 : decode cX11_ofPhraseNow 52 = .ok (.goto 4, 3) := by decide +kernel
theorem dX11_ofPhraseNow_55 : decode cX11_ofPhraseNow 55 = .ok (.iconst 0, 1) := by decide +kernel
theorem dX11_ofPhraseNow_56 : decode cX11_ofPhraseNow 56 = .ok (.iadd, 1) := by decide +kernel
theorem dX11_ofPhraseNow_57 : decode cX11_ofPhraseNow 57 = .ok (.istore 4, 2) := by decide +kernel
theorem dX11_ofPhraseNow_59 : decode cX11_ofPhraseNow 59 = .ok (.iinc 5 1, 3) := by decide +kernel
theorem dX11_ofPhraseNow_62 : decode cX11_ofPhraseNow 62 = .ok (.goto (-44), 3) := by decide +kernel
theorem dX11_ofPhraseNow_65 : decode cX11_ofPhraseNow 65 = .ok (.iload_n 2, 1) := by decide +kernel
theorem dX11_ofPhraseNow_66 : decode cX11_ofPhraseNow 66 = .ok (.ifCond .ne 10, 3) := by decide +kernel
theorem dX11_ofPhraseNow_69 : decode cX11_ofPhraseNow 69 = .ok (.aload_n 3, 1) := by decide +kernel
theorem dX11_ofPhraseNow_70 : decode cX11_ofPhraseNow 70 = .ok (.getfield 192, 3) := by decide +kernel
theorem dX11_ofPhraseNow_73 : decode cX11_ofPhraseNow 73 = .ok (.goto 41, 3) := by decide +kernel
theorem dX11_ofPhraseNow_76 : decode cX11_ofPhraseNow 76 = .ok (.iload_n 2, 1) := by decide +kernel
theorem dX11_ofPhraseNow_77 : decode cX11_ofPhraseNow 77 = .ok (.iconst 1, 1) := by decide +kernel
theorem dX11_ofPhraseNow_78 : decode cX11_ofPhraseNow 78 = .ok (.if_icmp .ne 10, 3) := by decide +kernel
theorem dX11_ofPhraseNow_81 : decode cX11_ofPhraseNow 81 = .ok (.aload_n 3, 1) := by decide +kernel
theorem dX11_ofPhraseNow_82 : decode cX11_ofPhraseNow 82 = .ok (.getfield 129, 3) := by decide +kernel
theorem dX11_ofPhraseNow_85 : decode cX11_ofPhraseNow 85 = .ok (.goto 29, 3) := by decide +kernel
theorem dX11_ofPhraseNow_88 : decode cX11_ofPhraseNow 88 = .ok (.iload_n 2, 1) := by decide +kernel
theorem dX11_ofPhraseNow_89 : decode cX11_ofPhraseNow 89 = .ok (.iconst 2, 1) := by decide +kernel
theorem dX11_ofPhraseNow_90 : decode cX11_ofPhraseNow 90 = .ok (.if_icmp .ne 10, 3) := by decide +kernel
theorem dX11_ofPhraseNow_93 : decode cX11_ofPhraseNow 93 = .ok (.aload_n 3, 1) := by decide +kernel
theorem dX11_ofPhraseNow_94 : decode cX11_ofPhraseNow 94 = .ok (.getfield 132, 3) := by decide +kernel
theorem dX11_ofPhraseNow_97 : decode cX11_ofPhraseNow 97 = .ok (.goto 17, 3) := by decide +kernel
theorem dX11_ofPhraseNow_100 : decode cX11_ofPhraseNow 100 = .ok (.iload_n 2, 1) := by decide +kernel
theorem dX11_ofPhraseNow_101 : decode cX11_ofPhraseNow 101 = .ok (.iconst 3, 1) := by decide +kernel
theorem dX11_ofPhraseNow_102 : decode cX11_ofPhraseNow 102 = .ok (.if_icmp .ne 10, 3) := by decide +kernel
theorem dX11_ofPhraseNow_105 : decode cX11_ofPhraseNow 105 = .ok (.aload_n 3, 1) := by decide +kernel
theorem dX11_ofPhraseNow_106 : decode cX11_ofPhraseNow 106 = .ok (.getfield 135, 3) := by decide +kernel
theorem dX11_ofPhraseNow_109 : decode cX11_ofPhraseNow 109 = .ok (.goto 5, 3) := by decide +kernel
theorem dX11_ofPhraseNow_112 : decode cX11_ofPhraseNow 112 = .ok (.iload 4, 2) := by decide +kernel
theorem dX11_ofPhraseNow_114 : decode cX11_ofPhraseNow 114 = .ok (.ireturn, 1) := by decide +kernel
theorem dX11_ofPhrase_0 : decode cX11_ofPhrase 0 = .ok (.aload_n 0, 1) := by decide +kernel
theorem dX11_ofPhrase_1 : decode cX11_ofPhrase 1 = .ok (.aload_n 0, 1) := by decide +kernel
theorem dX11_ofPhrase_2 : decode cX11_ofPhrase 2 = .ok (.iload_n 1, 1) := by decide +kernel
theorem dX11_ofPhrase_3 : decode cX11_ofPhrase 3 = .ok (.invokevirtual 126, 3) := by decide +kernel
theorem dX11_ofPhrase_6 : decode cX11_ofPhrase 6 = .ok (.iconst 1, 1) := by decide +kernel
theorem dX11_ofPhrase_7 : decode cX11_ofPhrase 7 = .ok (.invokevirtual 75, 3) := by decide +kernel
theorem dX11_ofPhrase_10 : decode cX11_ofPhrase 10 = .ok (.ifCond .ne 25, 3) := by decide +kernel
theorem dX11_ofPhrase_13 : decode cX11_ofPhrase 13 = .ok (.aload_n 0, 1) := by decide +kernel
theorem dX11_ofPhrase_14 : decode cX11_ofPhrase 14 = .ok (.iload_n 2, 1) := by decide +kernel
theorem dX11_ofPhrase_15 : decode cX11_ofPhrase 15 = .ok (.iconst 0, 1) := by decide +kernel
theorem dX11_ofPhrase_16 : decode cX11_ofPhrase 16 = .ok (.iconst 4, 1) := by decide +kernel
theorem dX11_ofPhrase_17 : decode cX11_ofPhrase 17 = .ok (.invokestatic 63, 3) := by decide +kernel
theorem dX11_ofPhrase_20 : decode cX11_ofPhrase 20 = .ok (.ifCond .ne 7, 3) := by decide +kernel
theorem dX11_ofPhrase_23 : decode cX11_ofPhrase 23 = .ok (.iconst 1, 1) := by decide +kernel
theorem dX11_ofPhrase_24 : decode cX11_ofPhrase 24 = .ok (.goto 4, 3) := by decide +kernel
theorem dX11_ofPhrase_27 : decode cX11_ofPhrase 27 = .ok (.iconst 0, 1) := by decide +kernel
theorem dX11_ofPhrase_28 : decode cX11_ofPhrase 28 = .ok (.iconst 2, 1) := by decide +kernel
theorem dX11_ofPhrase_29 : decode cX11_ofPhrase 29 = .ok (.invokevirtual 59, 3) := by decide +kernel
theorem dX11_ofPhrase_32 : decode cX11_ofPhrase 32 = .ok (.ifCond .eq 7, 3) := by decide +kernel
theorem dX11_ofPhrase_35 : decode cX11_ofPhrase 35 = .ok (.iconst 0, 1) := by decide +kernel
theorem dX11_ofPhrase_36 : decode cX11_ofPhrase 36 = .ok (.goto 9, 3) := by decide +kernel
theorem dX11_ofPhrase_39 : decode cX11_ofPhrase 39 = .ok (.aload_n 0, 1) := by decide +kernel
theorem dX11_ofPhrase_40 : decode cX11_ofPhrase 40 = .ok (.iload_n 1, 1) := by decide +kernel
theorem dX11_ofPhrase_41 : decode cX11_ofPhrase 41 = .ok (.iload_n 2, 1) := by decide +kernel
theorem dX11_ofPhrase_42 : decode cX11_ofPhrase 42 = .ok (.invokevirtual 297, 3) := by decide +kernel
theorem dX11_ofPhrase_45 : decode cX11_ofPhrase 45 = .ok (.ireturn, 1) := by decide +kernel
theorem dX11_ofPlayerNow_0 : decode cX11_ofPlayerNow 0 = .ok (.aload_n 0, 1) := by decide +kernel
theorem dX11_ofPlayerNow_1 : decode cX11_ofPlayerNow 1 = .ok (.getfield 31, 3) := by decide +kernel
theorem dX11_ofPlayerNow_4 : decode cX11_ofPlayerNow 4 = .ok (.iload_n 1, 1) := by decide +kernel
theorem dX11_ofPlayerNow_5 : decode cX11_ofPlayerNow 5 = .ok (.invokevirtual 90, 3) := by decide +kernel
theorem dX11_ofPlayerNow_8 : decode cX11_ofPlayerNow 8 = .ok (.checkcast 152, 3) := by decide +kernel
theorem dX11_ofPlayerNow_11 : decode cX11_ofPlayerNow 11 = .ok (.astore_n 3, 1) := by decide +kernel
theorem dX11_ofPlayerNow_12 : decode cX11_ofPlayerNow 12 = .ok (.bipush 7, 2) := by decide +kernel
theorem dX11_ofPlayerNow_14 : decode cX11_ofPlayerNow 14 = .ok (.newarray .int, 2) := by decide +kernel
theorem dX11_ofPlayerNow_16 : decode cX11_ofPlayerNow 16 = .ok (.dup, 1) := by decide +kernel
theorem dX11_ofPlayerNow_17 : decode cX11_ofPlayerNow 17 = .ok (.iconst 0, 1) := by decide +kernel
theorem dX11_ofPlayerNow_18 : decode cX11_ofPlayerNow 18 = .ok (.aload_n 3, 1) := by decide +kernel
theorem dX11_ofPlayerNow_19 : decode cX11_ofPlayerNow 19 = .ok (.getfield 180, 3) := by decide +kernel
theorem dX11_ofPlayerNow_22 : decode cX11_ofPlayerNow 22 = .ok (.iastore, 1) := by decide +kernel
theorem dX11_ofPlayerNow_23 : decode cX11_ofPlayerNow 23 = .ok (.dup, 1) := by decide +kernel
theorem dX11_ofPlayerNow_24 : decode cX11_ofPlayerNow 24 = .ok (.iconst 1, 1) := by decide +kernel
theorem dX11_ofPlayerNow_25 : decode cX11_ofPlayerNow 25 = .ok (.aload_n 3, 1) := by decide +kernel
theorem dX11_ofPlayerNow_26 : decode cX11_ofPlayerNow 26 = .ok (.getfield 189, 3) := by decide +kernel
theorem dX11_ofPlayerNow_29 : decode cX11_ofPlayerNow 29 = .ok (.iastore, 1) := by decide +kernel
theorem dX11_ofPlayerNow_30 : decode cX11_ofPlayerNow 30 = .ok (.dup, 1) := by decide +kernel
theorem dX11_ofPlayerNow_31 : decode cX11_ofPlayerNow 31 = .ok (.iconst 2, 1) := by decide +kernel
theorem dX11_ofPlayerNow_32 : decode cX11_ofPlayerNow 32 = .ok (.aload_n 3, 1) := by decide +kernel
theorem dX11_ofPlayerNow_33 : decode cX11_ofPlayerNow 33 = .ok (.getfield 300, 3) := by decide +kernel
theorem dX11_ofPlayerNow_36 : decode cX11_ofPlayerNow 36 = .ok (.iastore, 1) := by decide +kernel
theorem dX11_ofPlayerNow_37 : decode cX11_ofPlayerNow 37 = .ok (.dup, 1) := by decide +kernel
theorem dX11_ofPlayerNow_38 : decode cX11_ofPlayerNow 38 = .ok (.iconst 3, 1) := by decide +kernel
theorem dX11_ofPlayerNow_39 : decode cX11_ofPlayerNow 39 = .ok (.aload_n 3, 1) := by decide +kernel
theorem dX11_ofPlayerNow_40 : decode cX11_ofPlayerNow 40 = .ok (.getfield 183, 3) := by decide +kernel
theorem dX11_ofPlayerNow_43 : decode cX11_ofPlayerNow 43 = .ok (.iastore, 1) := by decide +kernel
theorem dX11_ofPlayerNow_44 : decode cX11_ofPlayerNow 44 = .ok (.dup, 1) := by decide +kernel
theorem dX11_ofPlayerNow_45 : decode cX11_ofPlayerNow 45 = .ok (.iconst 4, 1) := by decide +kernel
theorem dX11_ofPlayerNow_46 : decode cX11_ofPlayerNow 46 = .ok (.aload_n 3, 1) := by decide +kernel
theorem dX11_ofPlayerNow_47 : decode cX11_ofPlayerNow 47 = .ok (.getfield 186, 3) := by decide +kernel
theorem dX11_ofPlayerNow_50 : decode cX11_ofPlayerNow 50 = .ok (.ifCond .eq 7, 3) := by decide +kernel
theorem dX11_ofPlayerNow_53 : decode cX11_ofPlayerNow 53 = .ok (.iconst 1, 1) := by decide +kernel
theorem dX11_ofPlayerNow_54 : decode cX11_ofPlayerNow 54 = .ok (.goto 4, 3) := by decide +kernel
theorem dX11_ofPlayerNow_57 : decode cX11_ofPlayerNow 57 = .ok (.iconst 0, 1) := by decide +kernel
theorem dX11_ofPlayerNow_58 : decode cX11_ofPlayerNow 58 = .ok (.iastore, 1) := by decide +kernel
theorem dX11_ofPlayerNow_59 : decode cX11_ofPlayerNow 59 = .ok (.dup, 1) := by decide +kernel
theorem dX11_ofPlayerNow_60 : decode cX11_ofPlayerNow 60 = .ok (.iconst 5, 1) := by decide +kernel
theorem dX11_ofPlayerNow_61 : decode cX11_ofPlayerNow 61 = .ok (.aload_n 0, 1) := by decide +kernel
theorem dX11_ofPlayerNow_62 : decode cX11_ofPlayerNow 62 = .ok (.aload_n 3, 1) := by decide +kernel
theorem dX11_ofPlayerNow_63 : decode cX11_ofPlayerNow 63 = .ok (.invokevirtual 203, 3) := by decide +kernel
theorem dX11_ofPlayerNow_66 : decode cX11_ofPlayerNow 66 = .ok (.ifCond .eq 7, 3) := by decide +kernel
theorem dX11_ofPlayerNow_69 : decode cX11_ofPlayerNow 69 = .ok (.iconst 1, 1) := by decide +kernel
theorem dX11_ofPlayerNow_70 : decode cX11_ofPlayerNow 70 = .ok (.goto 4, 3) := by decide +kernel
theorem dX11_ofPlayerNow_73 : decode cX11_ofPlayerNow 73 = .ok (.iconst 0, 1) := by decide +kernel
theorem dX11_ofPlayerNow_74 : decode cX11_ofPlayerNow 74 = .ok (.iastore, 1) := by decide +kernel
theorem dX11_ofPlayerNow_75 : decode cX11_ofPlayerNow 75 = .ok (.dup, 1) := by decide +kernel
theorem dX11_ofPlayerNow_76 : decode cX11_ofPlayerNow 76 = .ok (.bipush 6, 2) := by decide +kernel
theorem dX11_ofPlayerNow_78 : decode cX11_ofPlayerNow 78 = .ok (.aload_n 3, 1) := by decide +kernel
theorem dX11_ofPlayerNow_79 : decode cX11_ofPlayerNow 79 = .ok (.getfield 201, 3) := by decide +kernel
theorem dX11_ofPlayerNow_82 : decode cX11_ofPlayerNow 82 = .ok (.iastore, 1) := by decide +kernel
theorem dX11_ofPlayerNow_83 : decode cX11_ofPlayerNow 83 = .ok (.astore 4, 2) := by decide +kernel
theorem dX11_ofPlayerNow_85 : decode cX11_ofPlayerNow 85 = .ok (.aload 4, 2) := by decide +kernel
theorem dX11_ofPlayerNow_87 : decode cX11_ofPlayerNow 87 = .ok (.iload_n 2, 1) := by decide +kernel
theorem dX11_ofPlayerNow_88 : decode cX11_ofPlayerNow 88 = .ok (.iaload, 1) := by decide +kernel
theorem dX11_ofPlayerNow_89 : decode cX11_ofPlayerNow 89 = .ok (.ireturn, 1) := by decide +kernel
theorem dX11_ofPlayer_0 : decode cX11_ofPlayer 0 = .ok (.aload_n 0, 1) := by decide +kernel
theorem dX11_ofPlayer_1 : decode cX11_ofPlayer 1 = .ok (.aload_n 0, 1) := by decide +kernel
theorem dX11_ofPlayer_2 : decode cX11_ofPlayer 2 = .ok (.iload_n 1, 1) := by decide +kernel
theorem dX11_ofPlayer_3 : decode cX11_ofPlayer 3 = .ok (.invokevirtual 174, 3) := by decide +kernel
theorem dX11_ofPlayer_6 : decode cX11_ofPlayer 6 = .ok (.iconst 1, 1) := by decide +kernel
theorem dX11_ofPlayer_7 : decode cX11_ofPlayer 7 = .ok (.invokevirtual 75, 3) := by decide +kernel
theorem dX11_ofPlayer_10 : decode cX11_ofPlayer 10 = .ok (.ifCond .ne 26, 3) := by decide +kernel
theorem dX11_ofPlayer_13 : decode cX11_ofPlayer 13 = .ok (.aload_n 0, 1) := by decide +kernel
theorem dX11_ofPlayer_14 : decode cX11_ofPlayer 14 = .ok (.iload_n 2, 1) := by decide +kernel
theorem dX11_ofPlayer_15 : decode cX11_ofPlayer 15 = .ok (.iconst 0, 1) := by decide +kernel
theorem dX11_ofPlayer_16 : decode cX11_ofPlayer 16 = .ok (.bipush 6, 2) := by decide +kernel
theorem dX11_ofPlayer_18 : decode cX11_ofPlayer 18 = .ok (.invokestatic 63, 3) := by decide +kernel
theorem dX11_ofPlayer_21 : decode cX11_ofPlayer 21 = .ok (.ifCond .ne 7, 3) := by decide +kernel
theorem dX11_ofPlayer_24 : decode cX11_ofPlayer 24 = .ok (.iconst 1, 1) := by decide +kernel
theorem dX11_ofPlayer_25 : decode cX11_ofPlayer 25 = .ok (.goto 4, 3) := by decide +kernel
theorem dX11_ofPlayer_28 : decode cX11_ofPlayer 28 = .ok (.iconst 0, 1) := by decide +kernel
theorem dX11_ofPlayer_29 : decode cX11_ofPlayer 29 = .ok (.iconst 2, 1) := by decide +kernel
theorem dX11_ofPlayer_30 : decode cX11_ofPlayer 30 = .ok (.invokevirtual 59, 3) := by decide +kernel
theorem dX11_ofPlayer_33 : decode cX11_ofPlayer 33 = .ok (.ifCond .eq 7, 3) := by decide +kernel
theorem dX11_ofPlayer_36 : decode cX11_ofPlayer 36 = .ok (.iconst 0, 1) := by decide +kernel
theorem dX11_ofPlayer_37 : decode cX11_ofPlayer 37 = .ok (.goto 9, 3) := by decide +kernel
theorem dX11_ofPlayer_40 : decode cX11_ofPlayer 40 = .ok (.aload_n 0, 1) := by decide +kernel
theorem dX11_ofPlayer_41 : decode cX11_ofPlayer 41 = .ok (.iload_n 1, 1) := by decide +kernel
theorem dX11_ofPlayer_42 : decode cX11_ofPlayer 42 = .ok (.iload_n 2, 1) := by decide +kernel
theorem dX11_ofPlayer_43 : decode cX11_ofPlayer 43 = .ok (.invokevirtual 303, 3) := by decide +kernel
theorem dX11_ofPlayer_46 : decode cX11_ofPlayer 46 = .ok (.ireturn, 1) := by decide +kernel
theorem dX11_memory_0 : decode cX11_memory 0 = .ok (.aload_n 0, 1) := by decide +kernel
theorem dX11_memory_1 : decode cX11_memory 1 = .ok (.aload_n 0, 1) := by decide +kernel
theorem dX11_memory_2 : decode cX11_memory 2 = .ok (.iload_n 1, 1) := by decide +kernel
theorem dX11_memory_3 : decode cX11_memory 3 = .ok (.invokevirtual 174, 3) := by decide +kernel
theorem dX11_memory_6 : decode cX11_memory 6 = .ok (.ifCond .ne 11, 3) := by decide +kernel
theorem dX11_memory_9 : decode cX11_memory 9 = .ok (.aload_n 0, 1) := by decide +kernel
theorem dX11_memory_10 : decode cX11_memory 10 = .ok (.iload_n 2, 1) := by decide +kernel
theorem dX11_memory_11 : decode cX11_memory 11 = .ok (.invokevirtual 126, 3) := by decide +kernel
theorem dX11_memory_14 : decode cX11_memory 14 = .ok (.ifCond .eq 7, 3) := by decide +kernel
theorem dX11_memory_17 : decode cX11_memory 17 = .ok (.iconst 1, 1) := by decide +kernel
theorem dX11_memory_18 : decode cX11_memory 18 = .ok (.goto 4, 3) := by decide +kernel
theorem dX11_memory_21 : decode cX11_memory 21 = .ok (.iconst 0, 1) := by decide +kernel
theorem dX11_memory_22 : decode cX11_memory 22 = .ok (.iconst 1, 1) := by decide +kernel
theorem dX11_memory_23 : decode cX11_memory 23 = .ok (.invokevirtual 75, 3) := by decide +kernel
theorem dX11_memory_26 : decode cX11_memory 26 = .ok (.ifCond .eq 7, 3) := by decide +kernel
theorem dX11_memory_29 : decode cX11_memory 29 = .ok (.iconst 0, 1) := by decide +kernel
theorem dX11_memory_30 : decode cX11_memory 30 = .ok (.goto 19, 3) := by decide +kernel
theorem dX11_memory_33 : decode cX11_memory 33 = .ok (.aload_n 0, 1) := by decide +kernel
theorem dX11_memory_34 : decode cX11_memory 34 = .ok (.getfield 31, 3) := by decide +kernel
theorem dX11_memory_37 : decode cX11_memory 37 = .ok (.iload_n 1, 1) := by decide +kernel
theorem dX11_memory_38 : decode cX11_memory 38 = .ok (.invokevirtual 90, 3) := by decide +kernel
theorem dX11_memory_41 : decode cX11_memory 41 = .ok (.checkcast 152, 3) := by decide +kernel
theorem dX11_memory_44 : decode cX11_memory 44 = .ok (.getfield 154, 3) := by decide +kernel
theorem dX11_memory_47 : decode cX11_memory 47 = .ok (.iload_n 2, 1) := by decide +kernel
theorem dX11_memory_48 : decode cX11_memory 48 = .ok (.iaload, 1) := by decide +kernel
theorem dX11_memory_49 : decode cX11_memory 49 = .ok (.ireturn, 1) := by decide +kernel
theorem dX11_ofPlace_0 : decode cX11_ofPlace 0 = .ok (.aload_n 0, 1) := by decide +kernel
theorem dX11_ofPlace_1 : decode cX11_ofPlace 1 = .ok (.iload_n 1, 1) := by decide +kernel
theorem dX11_ofPlace_2 : decode cX11_ofPlace 2 = .ok (.iconst 0, 1) := by decide +kernel
theorem dX11_ofPlace_3 : decode cX11_ofPlace 3 = .ok (.aload_n 0, 1) := by decide +kernel
theorem dX11_ofPlace_4 : decode cX11_ofPlace 4 = .ok (.getfield 28, 3) := by decide +kernel
theorem dX11_ofPlace_7 : decode cX11_ofPlace 7 = .ok (.invokevirtual 67, 3) := by decide +kernel
theorem dX11_ofPlace_10 : decode cX11_ofPlace 10 = .ok (.iconst 1, 1) := by decide +kernel
theorem dX11_ofPlace_11 : decode cX11_ofPlace 11 = .ok (.isub, 1) := by decide +kernel
theorem dX11_ofPlace_12 : decode cX11_ofPlace 12 = .ok (.invokestatic 63, 3) := by decide +kernel
theorem dX11_ofPlace_15 : decode cX11_ofPlace 15 = .ok (.ifCond .ne 7, 3) := by decide +kernel
theorem dX11_ofPlace_18 : decode cX11_ofPlace 18 = .ok (.iconst 1, 1) := by decide +kernel
theorem dX11_ofPlace_19 : decode cX11_ofPlace 19 = .ok (.goto 4, 3) := by decide +kernel
theorem dX11_ofPlace_22 : decode cX11_ofPlace 22 = .ok (.iconst 0, 1) := by decide +kernel
theorem dX11_ofPlace_23 : decode cX11_ofPlace 23 = .ok (.iconst 1, 1) := by decide +kernel
theorem dX11_ofPlace_24 : decode cX11_ofPlace 24 = .ok (.invokevirtual 75, 3) := by decide +kernel
theorem dX11_ofPlace_27 : decode cX11_ofPlace 27 = .ok (.ifCond .ne 25, 3) := by decide +kernel
theorem dX11_ofPlace_30 : decode cX11_ofPlace 30 = .ok (.aload_n 0, 1) := by decide +kernel
theorem dX11_ofPlace_31 : decode cX11_ofPlace 31 = .ok (.iload_n 2, 1) := by decide +kernel
theorem dX11_ofPlace_32 : decode cX11_ofPlace 32 = .ok (.iconst 0, 1) := by decide +kernel
theorem dX11_ofPlace_33 : decode cX11_ofPlace 33 = .ok (.iconst 1, 1) := by decide +kernel
theorem dX11_ofPlace_34 : decode cX11_ofPlace 34 = .ok (.invokestatic 63, 3) := by decide +kernel
theorem dX11_ofPlace_37 : decode cX11_ofPlace 37 = .ok (.ifCond .ne 7, 3) := by decide +kernel
theorem dX11_ofPlace_40 : decode cX11_ofPlace 40 = .ok (.iconst 1, 1) := by decide +kernel
theorem dX11_ofPlace_41 : decode cX11_ofPlace 41 = .ok (.goto 4, 3) := by decide +kernel
theorem dX11_ofPlace_44 : decode cX11_ofPlace 44 = .ok (.iconst 0, 1) := by decide +kernel
theorem dX11_ofPlace_45 : decode cX11_ofPlace 45 = .ok (.iconst 2, 1) := by decide +kernel
theorem dX11_ofPlace_46 : decode cX11_ofPlace 46 = .ok (.invokevirtual 59, 3) := by decide +kernel
theorem dX11_ofPlace_49 : decode cX11_ofPlace 49 = .ok (.ifCond .eq 5, 3) := by decide +kernel
theorem dX11_ofPlace_52 : decode cX11_ofPlace 52 = .ok (.iconst 0, 1) := by decide +kernel
theorem dX11_ofPlace_53 : decode cX11_ofPlace 53 = .ok (.ireturn, 1) := by decide +kernel
theorem dX11_ofPlace_54 : decode cX11_ofPlace 54 = .ok (.iload_n 2, 1) := by decide +kernel
theorem dX11_ofPlace_55 : decode cX11_ofPlace 55 = .ok (.ifCond .ne 20, 3) := by decide +kernel
theorem dX11_ofPlace_58 : decode cX11_ofPlace 58 = .ok (.aload_n 0, 1) := by decide +kernel
theorem dX11_ofPlace_59 : decode cX11_ofPlace 59 = .ok (.getfield 28, 3) := by decide +kernel
theorem dX11_ofPlace_62 : decode cX11_ofPlace 62 = .ok (.iload_n 1, 1) := by decide +kernel
theorem dX11_ofPlace_63 : decode cX11_ofPlace 63 = .ok (.invokevirtual 90, 3) := by decide +kernel
theorem dX11_ofPlace_66 : decode cX11_ofPlace 66 = .ok (.checkcast 162, 3) := by decide +kernel
theorem dX11_ofPlace_69 : decode cX11_ofPlace 69 = .ok (.invokevirtual 170, 3) := by decide +kernel
theorem dX11_ofPlace_72 : decode cX11_ofPlace 72 = .ok (.goto 22, 3) := by decide +kernel
theorem dX11_ofPlace_75 : decode cX11_ofPlace 75 = .ok (.aload_n 0, 1) := by decide +kernel
theorem dX11_ofPlace_76 : decode cX11_ofPlace 76 = .ok (.iload_n 1, 1) := by decide +kernel
theorem dX11_ofPlace_77 : decode cX11_ofPlace 77 = .ok (.aload_n 0, 1) := by decide +kernel
theorem dX11_ofPlace_78 : decode cX11_ofPlace 78 = .ok (.getfield 28, 3) := by decide +kernel
theorem dX11_ofPlace_81 : decode cX11_ofPlace 81 = .ok (.iload_n 1, 1) := by decide +kernel
theorem dX11_ofPlace_82 : decode cX11_ofPlace 82 = .ok (.invokevirtual 90, 3) := by decide +kernel
theorem dX11_ofPlace_85 : decode cX11_ofPlace 85 = .ok (.checkcast 162, 3) := by decide +kernel
theorem dX11_ofPlace_88 : decode cX11_ofPlace 88 = .ok (.invokevirtual 170, 3) := by decide +kernel
theorem dX11_ofPlace_91 : decode cX11_ofPlace 91 = .ok (.invokevirtual 259, 3) := by decide +kernel
theorem dX11_ofPlace_94 : decode cX11_ofPlace 94 = .ok (.ireturn, 1) := by decide +kernel
theorem dX11_mark__0 : decode cX11_mark_ 0 = .ok (.aload_n 0, 1) := by decide +kernel
theorem dX11_mark__1 : decode cX11_mark_ 1 = .ok (.iload_n 1, 1) := by decide +kernel
theorem dX11_mark__2 : decode cX11_mark_ 2 = .ok (.iconst 0, 1) := by decide +kernel
theorem dX11_mark__3 : decode cX11_mark_ 3 = .ok (.iconst 3, 1) := by decide +kernel
theorem dX11_mark__4 : decode cX11_mark_ 4 = .ok (.invokestatic 63, 3) := by decide +kernel
theorem dX11_mark__7 : decode cX11_mark_ 7 = .ok (.ifCond .ne 7, 3) := by decide +kernel
theorem dX11_mark__10 : decode cX11_mark_ 10 = .ok (.iconst 1, 1) := by decide +kernel
theorem dX11_mark__11 : decode cX11_mark_ 11 = .ok (.goto 4, 3) := by decide +kernel
theorem dX11_mark__14 : decode cX11_mark_ 14 = .ok (.iconst 0, 1) := by decide +kernel
theorem dX11_mark__15 : decode cX11_mark_ 15 = .ok (.iconst 1, 1) := by decide +kernel
theorem dX11_mark__16 : decode cX11_mark_ 16 = .ok (.invokevirtual 75, 3) := by decide +kernel
theorem dX11_mark__19 : decode cX11_mark_ 19 = .ok (.ifCond .eq 7, 3) := by decide +kernel
theorem dX11_mark__22 : decode cX11_mark_ 22 = .ok (.iconst 0, 1) := by decide +kernel
theorem dX11_mark__23 : decode cX11_mark_ 23 = .ok (.goto 12, 3) := by decide +kernel
theorem dX11_mark__26 : decode cX11_mark_ 26 = .ok (.aload_n 0, 1) := by decide +kernel
theorem dX11_mark__27 : decode cX11_mark_ 27 = .ok (.iload_n 1, 1) := by decide +kernel
theorem dX11_mark__28 : decode cX11_mark_ 28 = .ok (.aload_n 0, 1) := by decide +kernel
theorem dX11_mark__29 : decode cX11_mark_ 29 = .ok (.invokevirtual 266, 3) := by decide +kernel
theorem dX11_mark__32 : decode cX11_mark_ 32 = .ok (.invokevirtual 262, 3) := by decide +kernel
theorem dX11_mark__35 : decode cX11_mark_ 35 = .ok (.ireturn, 1) := by decide +kernel
theorem dX11_ofRound_0 : decode cX11_ofRound 0 = .ok (.aload_n 0, 1) := by decide +kernel
theorem dX11_ofRound_1 : decode cX11_ofRound 1 = .ok (.iload_n 1, 1) := by decide +kernel
theorem dX11_ofRound_2 : decode cX11_ofRound 2 = .ok (.iconst 0, 1) := by decide +kernel
theorem dX11_ofRound_3 : decode cX11_ofRound 3 = .ok (.iconst 2, 1) := by decide +kernel
theorem dX11_ofRound_4 : decode cX11_ofRound 4 = .ok (.invokestatic 63, 3) := by decide +kernel
theorem dX11_ofRound_7 : decode cX11_ofRound 7 = .ok (.ifCond .ne 7, 3) := by decide +kernel
theorem dX11_ofRound_10 : decode cX11_ofRound 10 = .ok (.iconst 1, 1) := by decide +kernel
theorem dX11_ofRound_11 : decode cX11_ofRound 11 = .ok (.goto 4, 3) := by decide +kernel
theorem dX11_ofRound_14 : decode cX11_ofRound 14 = .ok (.iconst 0, 1) := by decide +kernel
theorem dX11_ofRound_15 : decode cX11_ofRound 15 = .ok (.iconst 1, 1) := by decide +kernel
theorem dX11_ofRound_16 : decode cX11_ofRound 16 = .ok (.invokevirtual 75, 3) := by decide +kernel
theorem dX11_ofRound_19 : decode cX11_ofRound 19 = .ok (.ifCond .ne 25, 3) := by decide +kernel
theorem dX11_ofRound_22 : decode cX11_ofRound 22 = .ok (.aload_n 0, 1) := by decide +kernel
theorem dX11_ofRound_23 : decode cX11_ofRound 23 = .ok (.iload_n 2, 1) := by decide +kernel
theorem dX11_ofRound_24 : decode cX11_ofRound 24 = .ok (.iconst 0, 1) := by decide +kernel
theorem dX11_ofRound_25 : decode cX11_ofRound 25 = .ok (.iconst 1, 1) := by decide +kernel
theorem dX11_ofRound_26 : decode cX11_ofRound 26 = .ok (.invokestatic 63, 3) := by decide +kernel
theorem dX11_ofRound_29 : decode cX11_ofRound 29 = .ok (.ifCond .ne 7, 3) := by decide +kernel
theorem dX11_ofRound_32 : decode cX11_ofRound 32 = .ok (.iconst 1, 1) := by decide +kernel
theorem dX11_ofRound_33 : decode cX11_ofRound 33 = .ok (.goto 4, 3) := by decide +kernel
theorem dX11_ofRound_36 : decode cX11_ofRound 36 = .ok (.iconst 0, 1) := by decide +kernel
theorem dX11_ofRound_37 : decode cX11_ofRound 37 = .ok (.iconst 2, 1) := by decide +kernel
theorem dX11_ofRound_38 : decode cX11_ofRound 38 = .ok (.invokevirtual 59, 3) := by decide +kernel
theorem dX11_ofRound_41 : decode cX11_ofRound 41 = .ok (.ifCond .eq 7, 3) := by decide +kernel
theorem dX11_ofRound_44 : decode cX11_ofRound 44 = .ok (.iconst 0, 1) := by decide +kernel
theorem dX11_ofRound_45 : decode cX11_ofRound 45 = .ok (.goto 11, 3) := by decide +kernel
theorem dX11_ofRound_48 : decode cX11_ofRound 48 = .ok (.aload_n 0, 1) := by decide +kernel
theorem dX11_ofRound_49 : decode cX11_ofRound 49 = .ok (.getfield 45, 3) := by decide +kernel
theorem dX11_ofRound_52 : decode cX11_ofRound 52 = .ok (.iload_n 1, 1) := by decide +kernel
theorem dX11_ofRound_53 : decode cX11_ofRound 53 = .ok (.aaload, 1) := by decide +kernel
theorem dX11_ofRound_54 : decode cX11_ofRound 54 = .ok (.iload_n 2, 1) := by decide +kernel
theorem dX11_ofRound_55 : decode cX11_ofRound 55 = .ok (.iaload, 1) := by decide +kernel
theorem dX11_ofRound_56 : decode cX11_ofRound 56 = .ok (.ireturn, 1) := by decide +kernel
theorem dX11_allBlows_0 : decode cX11_allBlows 0 = .ok (.iconst 0, 1) := by decide +kernel
theorem dX11_allBlows_1 : decode cX11_allBlows 1 = .ok (.istore_n 1, 1) := by decide +kernel
theorem dX11_allBlows_2 : decode cX11_allBlows 2 = .ok (.aload_n 0, 1) := by decide +kernel
theorem dX11_allBlows_3 : decode cX11_allBlows 3 = .ok (.getfield 19, 3) := by decide +kernel
theorem dX11_allBlows_6 : decode cX11_allBlows 6 = .ok (.invokevirtual 138, 3) := by decide +kernel
theorem dX11_allBlows_9 : decode cX11_allBlows 9 = .ok (.astore_n 2, 1) := by decide +kernel
theorem dX11_allBlows_10 : decode cX11_allBlows 10 = .ok (.aload_n 2, 1) := by decide +kernel
theorem dX11_allBlows_11 : decode cX11_allBlows 11 = .ok (.invokeinterface 142 1, 5) := by decide +kernel
theorem dX11_allBlows_16 : decode cX11_allBlows 16 = .ok (.ifCond .eq 23, 3) := by decide +kernel
theorem dX11_allBlows_19 : decode cX11_allBlows 19 = .ok (.aload_n 2, 1) := by decide +kernel
theorem dX11_allBlows_20 : decode cX11_allBlows 20 = .ok (.invokeinterface 148 1, 5) := by decide +kernel
theorem dX11_allBlows_25 : decode cX11_allBlows 25 = .ok (.checkcast 78, 3) := by decide +kernel
theorem dX11_allBlows_28 : decode cX11_allBlows 28 = .ok (.astore_n 3, 1) := by decide +kernel
theorem dX11_allBlows_29 : decode cX11_allBlows 29 = .ok (.iload_n 1, 1) := by decide +kernel
theorem dX11_allBlows_30 : decode cX11_allBlows 30 = .ok (.aload_n 3, 1) := by decide +kernel
theorem dX11_allBlows_31 : decode cX11_allBlows 31 = .ok (.getfield 291, 3) := by decide +kernel
theorem dX11_allBlows_34 : decode cX11_allBlows 34 = .ok (.iadd, 1) := by decide +kernel
theorem dX11_allBlows_35 : decode cX11_allBlows 35 = .ok (.istore_n 1, 1) := by decide +kernel
theorem dX11_allBlows_36 : decode cX11_allBlows 36 = .ok (.goto (-26), 3) := by decide +kernel
theorem dX11_allBlows_39 : decode cX11_allBlows 39 = .ok (.iload_n 1, 1) := by decide +kernel
theorem dX11_allBlows_40 : decode cX11_allBlows 40 = .ok (.ireturn, 1) := by decide +kernel
theorem dX11_manyNow_0 : decode cX11_manyNow 0 = .ok (.bipush 14, 2) := by decide +kernel
theorem dX11_manyNow_2 : decode cX11_manyNow 2 = .ok (.newarray .int, 2) := by decide +kernel
theorem dX11_manyNow_4 : decode cX11_manyNow 4 = .ok (.dup, 1) := by decide +kernel
theorem dX11_manyNow_5 : decode cX11_manyNow 5 = .ok (.iconst 0, 1) := by decide +kernel
theorem dX11_manyNow_6 : decode cX11_manyNow 6 = .ok (.aload_n 0, 1) := by decide +kernel
theorem dX11_manyNow_7 : decode cX11_manyNow 7 = .ok (.getfield 210, 3) := by decide +kernel
theorem dX11_manyNow_10 : decode cX11_manyNow 10 = .ok (.iastore, 1) := by decide +kernel
theorem dX11_manyNow_11 : decode cX11_manyNow 11 = .ok (.dup, 1) := by decide +kernel
theorem dX11_manyNow_12 : decode cX11_manyNow 12 = .ok (.iconst 1, 1) := by decide +kernel
theorem dX11_manyNow_13 : decode cX11_manyNow 13 = .ok (.aload_n 0, 1) := by decide +kernel
theorem dX11_manyNow_14 : decode cX11_manyNow 14 = .ok (.getfield 19, 3) := by decide +kernel
theorem dX11_manyNow_17 : decode cX11_manyNow 17 = .ok (.invokevirtual 67, 3) := by decide +kernel
theorem dX11_manyNow_20 : decode cX11_manyNow 20 = .ok (.iastore, 1) := by decide +kernel
theorem dX11_manyNow_21 : decode cX11_manyNow 21 = .ok (.dup, 1) := by decide +kernel
theorem dX11_manyNow_22 : decode cX11_manyNow 22 = .ok (.iconst 2, 1) := by decide +kernel
theorem dX11_manyNow_23 : decode cX11_manyNow 23 = .ok (.aload_n 0, 1) := by decide +kernel
theorem dX11_manyNow_24 : decode cX11_manyNow 24 = .ok (.getfield 25, 3) := by decide +kernel
theorem dX11_manyNow_27 : decode cX11_manyNow 27 = .ok (.invokevirtual 67, 3) := by decide +kernel
theorem dX11_manyNow_30 : decode cX11_manyNow 30 = .ok (.iastore, 1) := by decide +kernel
theorem dX11_manyNow_31 : decode cX11_manyNow 31 = .ok (.dup, 1) := by decide +kernel
theorem dX11_manyNow_32 : decode cX11_manyNow 32 = .ok (.iconst 3, 1) := by decide +kernel
theorem dX11_manyNow_33 : decode cX11_manyNow 33 = .ok (.aload_n 0, 1) := by decide +kernel
theorem dX11_manyNow_34 : decode cX11_manyNow 34 = .ok (.getfield 28, 3) := by decide +kernel
theorem dX11_manyNow_37 : decode cX11_manyNow 37 = .ok (.invokevirtual 67, 3) := by decide +kernel
theorem dX11_manyNow_40 : decode cX11_manyNow 40 = .ok (.iastore, 1) := by decide +kernel
theorem dX11_manyNow_41 : decode cX11_manyNow 41 = .ok (.dup, 1) := by decide +kernel
theorem dX11_manyNow_42 : decode cX11_manyNow 42 = .ok (.iconst 4, 1) := by decide +kernel
theorem dX11_manyNow_43 : decode cX11_manyNow 43 = .ok (.aload_n 0, 1) := by decide +kernel
theorem dX11_manyNow_44 : decode cX11_manyNow 44 = .ok (.getfield 31, 3) := by decide +kernel
theorem dX11_manyNow_47 : decode cX11_manyNow 47 = .ok (.invokevirtual 67, 3) := by decide +kernel
theorem dX11_manyNow_50 : decode cX11_manyNow 50 = .ok (.iastore, 1) := by decide +kernel
theorem dX11_manyNow_51 : decode cX11_manyNow 51 = .ok (.dup, 1) := by decide +kernel
theorem dX11_manyNow_52 : decode cX11_manyNow 52 = .ok (.iconst 5, 1) := by decide +kernel
theorem dX11_manyNow_53 : decode cX11_manyNow 53 = .ok (.aload_n 0, 1) := by decide +kernel
theorem dX11_manyNow_54 : decode cX11_manyNow 54 = .ok (.invokevirtual 223, 3) := by decide +kernel
theorem dX11_manyNow_57 : decode cX11_manyNow 57 = .ok (.iastore, 1) := by decide +kernel
theorem dX11_manyNow_58 : decode cX11_manyNow 58 = .ok (.dup, 1) := by decide +kernel
theorem dX11_manyNow_59 : decode cX11_manyNow 59 = .ok (.bipush 6, 2) := by decide +kernel
theorem dX11_manyNow_61 : decode cX11_manyNow 61 = .ok (.aload_n 0, 1) := by decide +kernel
theorem dX11_manyNow_62 : decode cX11_manyNow 62 = .ok (.getfield 34, 3) := by decide +kernel
theorem dX11_manyNow_65 : decode cX11_manyNow 65 = .ok (.invokevirtual 67, 3) := by decide +kernel
theorem dX11_manyNow_68 : decode cX11_manyNow 68 = .ok (.iastore, 1) := by decide +kernel
theorem dX11_manyNow_69 : decode cX11_manyNow 69 = .ok (.dup, 1) := by decide +kernel
theorem dX11_manyNow_70 : decode cX11_manyNow 70 = .ok (.bipush 7, 2) := by decide +kernel
theorem dX11_manyNow_72 : decode cX11_manyNow 72 = .ok (.aload_n 0, 1) := by decide +kernel
theorem dX11_manyNow_73 : decode cX11_manyNow 73 = .ok (.getfield 49, 3) := by decide +kernel
theorem dX11_manyNow_76 : decode cX11_manyNow 76 = .ok (.iastore, 1) := by decide +kernel
theorem dX11_manyNow_77 : decode cX11_manyNow 77 = .ok (.dup, 1) := by decide +kernel
theorem dX11_manyNow_78 : decode cX11_manyNow 78 = .ok (.bipush 8, 2) := by decide +kernel
theorem dX11_manyNow_80 : decode cX11_manyNow 80 = .ok (.aload_n 0, 1) := by decide +kernel
theorem dX11_manyNow_81 : decode cX11_manyNow 81 = .ok (.getfield 282, 3) := by decide +kernel
theorem dX11_manyNow_84 : decode cX11_manyNow 84 = .ok (.iastore, 1) := by decide +kernel
theorem dX11_manyNow_85 : decode cX11_manyNow 85 = .ok (.dup, 1) := by decide +kernel
theorem dX11_manyNow_86 : decode cX11_manyNow 86 = .ok (.bipush 9, 2) := by decide +kernel
theorem dX11_manyNow_88 : decode cX11_manyNow 88 = .ok (.aload_n 0, 1) := by decide +kernel
theorem dX11_manyNow_89 : decode cX11_manyNow 89 = .ok (.getfield 273, 3) := by decide +kernel
theorem dX11_manyNow_92 : decode cX11_manyNow 92 = .ok (.ifCond .eq 7, 3) := by decide +kernel
theorem dX11_manyNow_95 : decode cX11_manyNow 95 = .ok (.iconst 1, 1) := by decide +kernel
theorem dX11_manyNow_96 : decode cX11_manyNow 96 = .ok (.goto 4, 3) := by decide +kernel
theorem dX11_manyNow_99 : decode cX11_manyNow 99 = .ok (.iconst 0, 1) := by decide +kernel
theorem dX11_manyNow_100 : decode cX11_manyNow 100 = .ok (.iastore, 1) := by decide +kernel
theorem dX11_manyNow_101 : decode cX11_manyNow 101 = .ok (.dup, 1) := by decide +kernel
theorem dX11_manyNow_102 : decode cX11_manyNow 102 = .ok (.bipush 10, 2) := by decide +kernel
theorem dX11_manyNow_104 : decode cX11_manyNow 104 = .ok (.aload_n 0, 1) := by decide +kernel
theorem dX11_manyNow_105 : decode cX11_manyNow 105 = .ok (.aload_n 0, 1) := by decide +kernel
theorem dX11_manyNow_106 : decode cX11_manyNow 106 = .ok (.invokevirtual 266, 3) := by decide +kernel
theorem dX11_manyNow_109 : decode cX11_manyNow 109 = .ok (.invokevirtual 270, 3) := by decide +kernel
theorem dX11_manyNow_112 : decode cX11_manyNow 112 = .ok (.iastore, 1) := by decide +kernel
theorem dX11_manyNow_113 : decode cX11_manyNow 113 = .ok (.dup, 1) := by decide +kernel
theorem dX11_manyNow_114 : decode cX11_manyNow 114 = .ok (.bipush 11, 2) := by decide +kernel
theorem dX11_manyNow_116 : decode cX11_manyNow 116 = .ok (.aload_n 0, 1) := by decide +kernel
theorem dX11_manyNow_117 : decode cX11_manyNow 117 = .ok (.invokevirtual 279, 3) := by decide +kernel
theorem dX11_manyNow_120 : decode cX11_manyNow 120 = .ok (.iastore, 1) := by decide +kernel
theorem dX11_manyNow_121 : decode cX11_manyNow 121 = .ok (.dup, 1) := by decide +kernel
theorem dX11_manyNow_122 : decode cX11_manyNow 122 = .ok (.bipush 12, 2) := by decide +kernel
theorem dX11_manyNow_124 : decode cX11_manyNow 124 = .ok (.aload_n 0, 1) := by decide +kernel
theorem dX11_manyNow_125 : decode cX11_manyNow 125 = .ok (.getfield 216, 3) := by decide +kernel
theorem dX11_manyNow_128 : decode cX11_manyNow 128 = .ok (.iastore, 1) := by decide +kernel
theorem dX11_manyNow_129 : decode cX11_manyNow 129 = .ok (.dup, 1) := by decide +kernel
theorem dX11_manyNow_130 : decode cX11_manyNow 130 = .ok (.bipush 13, 2) := by decide +kernel
theorem dX11_manyNow_132 : decode cX11_manyNow 132 = .ok (.aload_n 0, 1) := by decide +kernel
theorem dX11_manyNow_133 : decode cX11_manyNow 133 = .ok (.invokevirtual 306, 3) := by decide +kernel
theorem dX11_manyNow_136 : decode cX11_manyNow 136 = .ok (.iastore, 1) := by decide +kernel
theorem dX11_manyNow_137 : decode cX11_manyNow 137 = .ok (.astore_n 2, 1) := by decide +kernel
theorem dX11_manyNow_138 : decode cX11_manyNow 138 = .ok (.aload_n 2, 1) := by decide +kernel
theorem dX11_manyNow_139 : decode cX11_manyNow 139 = .ok (.iload_n 1, 1) := by decide +kernel
theorem dX11_manyNow_140 : decode cX11_manyNow 140 = .ok (.iaload, 1) := by decide +kernel
theorem dX11_manyNow_141 : decode cX11_manyNow 141 = .ok (.ireturn, 1) := by decide +kernel
theorem dX11_many_0 : decode cX11_many 0 = .ok (.aload_n 0, 1) := by decide +kernel
theorem dX11_many_1 : decode cX11_many 1 = .ok (.iload_n 1, 1) := by decide +kernel
theorem dX11_many_2 : decode cX11_many 2 = .ok (.iconst 0, 1) := by decide +kernel
theorem dX11_many_3 : decode cX11_many 3 = .ok (.bipush 13, 2) := by decide +kernel
theorem dX11_many_5 : decode cX11_many 5 = .ok (.invokestatic 63, 3) := by decide +kernel
theorem dX11_many_8 : decode cX11_many 8 = .ok (.ifCond .ne 7, 3) := by decide +kernel
theorem dX11_many_11 : decode cX11_many 11 = .ok (.iconst 1, 1) := by decide +kernel
theorem dX11_many_12 : decode cX11_many 12 = .ok (.goto 4, 3) := by decide +kernel
theorem dX11_many_15 : decode cX11_many 15 = .ok (.iconst 0, 1) := by decide +kernel
theorem dX11_many_16 : decode cX11_many 16 = .ok (.iconst 1, 1) := by decide +kernel
theorem dX11_many_17 : decode cX11_many 17 = .ok (.invokevirtual 75, 3) := by decide +kernel
theorem dX11_many_20 : decode cX11_many 20 = .ok (.ifCond .eq 7, 3) := by decide +kernel
theorem dX11_many_23 : decode cX11_many 23 = .ok (.iconst 0, 1) := by decide +kernel
theorem dX11_many_24 : decode cX11_many 24 = .ok (.goto 8, 3) := by decide +kernel
theorem dX11_many_27 : decode cX11_many 27 = .ok (.aload_n 0, 1) := by decide +kernel
theorem dX11_many_28 : decode cX11_many 28 = .ok (.iload_n 1, 1) := by decide +kernel
theorem dX11_many_29 : decode cX11_many 29 = .ok (.invokevirtual 309, 3) := by decide +kernel
theorem dX11_many_32 : decode cX11_many 32 = .ok (.ireturn, 1) := by decide +kernel
theorem dX11_meanMemory_0 : decode cX11_meanMemory 0 = .ok (.aload_n 0, 1) := by decide +kernel
theorem dX11_meanMemory_1 : decode cX11_meanMemory 1 = .ok (.iconst 0, 1) := by decide +kernel
theorem dX11_meanMemory_2 : decode cX11_meanMemory 2 = .ok (.putfield 56, 3) := by decide +kernel
theorem dX11_meanMemory_5 : decode cX11_meanMemory 5 = .ok (.iconst 0, 1) := by decide +kernel
theorem dX11_meanMemory_6 : decode cX11_meanMemory 6 = .ok (.istore_n 1, 1) := by decide +kernel
theorem dX11_meanMemory_7 : decode cX11_meanMemory 7 = .ok (.iconst 0, 1) := by decide +kernel
theorem dX11_meanMemory_8 : decode cX11_meanMemory 8 = .ok (.istore_n 2, 1) := by decide +kernel
theorem dX11_meanMemory_9 : decode cX11_meanMemory 9 = .ok (.aload_n 0, 1) := by decide +kernel
theorem dX11_meanMemory_10 : decode cX11_meanMemory 10 = .ok (.getfield 31, 3) := by decide +kernel
theorem dX11_meanMemory_13 : decode cX11_meanMemory 13 = .ok (.invokevirtual 138, 3) := by decide +kernel
theorem dX11_meanMemory_16 : decode cX11_meanMemory 16 = .ok (.astore_n 3, 1) := by decide +kernel
theorem dX11_meanMemory_17 : decode cX11_meanMemory 17 = .ok (.aload_n 3, 1) := by decide +kernel
theorem dX11_meanMemory_18 : decode cX11_meanMemory 18 = .ok (.invokeinterface 142 1, 5) := by decide +kernel
theorem dX11_meanMemory_23 : decode cX11_meanMemory 23 = .ok (.ifCond .eq 75, 3) := by decide +kernel
theorem dX11_meanMemory_26 : decode cX11_meanMemory 26 = .ok (.aload_n 3, 1) := by decide +kernel
theorem dX11_meanMemory_27 : decode cX11_meanMemory 27 = .ok (.invokeinterface 148 1, 5) := by decide +kernel
theorem dX11_meanMemory_32 : decode cX11_meanMemory 32 = .ok (.checkcast 152, 3) := by decide +kernel
theorem dX11_meanMemory_35 : decode cX11_meanMemory 35 = .ok (.astore 4, 2) := by decide +kernel
theorem dX11_meanMemory_37 : decode cX11_meanMemory 37 = .ok (.iconst 0, 1) := by decide +kernel
theorem dX11_meanMemory_38 : decode cX11_meanMemory 38 = .ok (.istore 5, 2) := by decide +kernel
theorem dX11_meanMemory_40 : decode cX11_meanMemory 40 = .ok (.iload 5, 2) := by decide +kernel
theorem dX11_meanMemory_42 : decode cX11_meanMemory 42 = .ok (.aload_n 0, 1) := by decide +kernel
theorem dX11_meanMemory_43 : decode cX11_meanMemory 43 = .ok (.getfield 25, 3) := by decide +kernel
theorem dX11_meanMemory_46 : decode cX11_meanMemory 46 = .ok (.invokevirtual 67, 3) := by decide +kernel
theorem dX11_meanMemory_49 : decode cX11_meanMemory 49 = .ok (.if_icmp .ge 46, 3) := by decide +kernel
theorem dX11_meanMemory_52 : decode cX11_meanMemory 52 = .ok (.aload_n 0, 1) := by decide +kernel
theorem dX11_meanMemory_53 : decode cX11_meanMemory 53 = .ok (.getfield 25, 3) := by decide +kernel
theorem dX11_meanMemory_56 : decode cX11_meanMemory 56 = .ok (.iload 5, 2) := by decide +kernel
theorem dX11_meanMemory_58 : decode cX11_meanMemory 58 = .ok (.invokevirtual 90, 3) := by decide +kernel
theorem dX11_meanMemory_61 : decode cX11_meanMemory 61 = .ok (.checkcast 121, 3) := by decide +kernel
theorem dX11_meanMemory_64 : decode cX11_meanMemory 64 = .ok (.getfield 192, 3) := by decide +kernel
theorem dX11_meanMemory_67 : decode cX11_meanMemory 67 = .ok (.aload 4, 2) := by decide +kernel
theorem dX11_meanMemory_69 : decode cX11_meanMemory 69 = .ok (.getfield 180, 3) := by decide +kernel
theorem dX11_meanMemory_72 : decode cX11_meanMemory 72 = .ok (.if_icmp .ne 17, 3) := by decide +kernel
theorem dX11_meanMemory_75 : decode cX11_meanMemory 75 = .ok (.iinc 1 1, 3) := by decide +kernel
theorem dX11_meanMemory_78 : decode cX11_meanMemory 78 = .ok (.iload_n 2, 1) := by decide +kernel
theorem dX11_meanMemory_79 : decode cX11_meanMemory 79 = .ok (.aload 4, 2) := by decide +kernel
theorem dX11_meanMemory_81 : decode cX11_meanMemory 81 = .ok (.getfield 154, 3) := by decide +kernel
theorem dX11_meanMemory_84 : decode cX11_meanMemory 84 = .ok (.iload 5, 2) := by decide +kernel
theorem dX11_meanMemory_86 : decode cX11_meanMemory 86 = .ok (.iaload, 1) := by decide +kernel
theorem dX11_meanMemory_87 : decode cX11_meanMemory 87 = .ok (.iadd, 1) := by decide +kernel
theorem dX11_meanMemory_88 : decode cX11_meanMemory 88 = .ok (.istore_n 2, 1) := by decide +kernel
theorem dX11_meanMemory_89 : decode cX11_meanMemory 89 = .ok (.iinc 5 1, 3) := by decide +kernel
theorem dX11_meanMemory_92 : decode cX11_meanMemory 92 = .ok (.goto (-52), 3) := by decide +kernel
theorem dX11_meanMemory_95 : decode cX11_meanMemory 95 = .ok (.goto (-78), 3) := by decide +kernel
theorem dX11_meanMemory_98 : decode cX11_meanMemory 98 = .ok (.iload_n 1, 1) := by decide +kernel
theorem dX11_meanMemory_99 : decode cX11_meanMemory 99 = .ok (.ifCond .ne 7, 3) := by decide +kernel
theorem dX11_meanMemory_102 : decode cX11_meanMemory 102 = .ok (.dconst 0, 1) := by decide +kernel
theorem dX11_meanMemory_103 : decode cX11_meanMemory 103 = .ok (.goto 8, 3) := by decide +kernel
theorem dX11_meanMemory_106 : decode cX11_meanMemory 106 = .ok (.iload_n 2, 1) := by decide +kernel
theorem dX11_meanMemory_107 : decode cX11_meanMemory 107 = .ok (.i2d, 1) := by decide +kernel
theorem dX11_meanMemory_108 : decode cX11_meanMemory 108 = .ok (.iload_n 1, 1) := by decide +kernel
theorem dX11_meanMemory_109 : decode cX11_meanMemory 109 = .ok (.i2d, 1) := by decide +kernel
theorem dX11_meanMemory_110 : decode cX11_meanMemory 110 = .ok (.ddiv, 1) := by decide +kernel
theorem dX11_meanMemory_111 : decode cX11_meanMemory 111 = .ok (.dreturn, 1) := by decide +kernel
theorem dX11_wouldTotalNow_0 : decode cX11_wouldTotalNow 0 = .ok (.aload_n 0, 1) := by decide +kernel
theorem dX11_wouldTotalNow_1 : decode cX11_wouldTotalNow 1 = .ok (.getfield 31, 3) := by decide +kernel
theorem dX11_wouldTotalNow_4 : decode cX11_wouldTotalNow 4 = .ok (.invokevirtual 67, 3) := by decide +kernel
theorem dX11_wouldTotalNow_7 : decode cX11_wouldTotalNow 7 = .ok (.anewarray 44, 3) := by decide +kernel
theorem dX11_wouldTotalNow_10 : decode cX11_wouldTotalNow 10 = .ok (.astore_n 2, 1) := by decide +kernel
theorem dX11_wouldTotalNow_11 : decode cX11_wouldTotalNow 11 = .ok (.iconst 0, 1) := by decide +kernel
theorem dX11_wouldTotalNow_12 : decode cX11_wouldTotalNow 12 = .ok (.istore_n 3, 1) := by decide +kernel
theorem dX11_wouldTotalNow_13 : decode cX11_wouldTotalNow 13 = .ok (.iload_n 3, 1) := by decide +kernel
theorem dX11_wouldTotalNow_14 : decode cX11_wouldTotalNow 14 = .ok (.aload_n 2, 1) := by decide +kernel
theorem dX11_wouldTotalNow_15 : decode cX11_wouldTotalNow 15 = .ok (.arraylength, 1) := by decide +kernel
theorem dX11_wouldTotalNow_16 : decode cX11_wouldTotalNow 16 = .ok (.if_icmp .ge 115, 3) := by decide +kernel
theorem dX11_wouldTotalNow_19 : decode cX11_wouldTotalNow 19 = .ok (.aload_n 0, 1) := by decide +kernel
theorem dX11_wouldTotalNow_20 : decode cX11_wouldTotalNow 20 = .ok (.getfield 31, 3) := by decide +kernel
theorem dX11_wouldTotalNow_23 : decode cX11_wouldTotalNow 23 = .ok (.iload_n 3, 1) := by decide +kernel
theorem dX11_wouldTotalNow_24 : decode cX11_wouldTotalNow 24 = .ok (.invokevirtual 90, 3) := by decide +kernel
theorem dX11_wouldTotalNow_27 : decode cX11_wouldTotalNow 27 = .ok (.checkcast 152, 3) := by decide +kernel
theorem dX11_wouldTotalNow_30 : decode cX11_wouldTotalNow 30 = .ok (.astore 4, 2) := by decide +kernel
theorem dX11_wouldTotalNow_32 : decode cX11_wouldTotalNow 32 = .ok (.aload_n 2, 1) := by decide +kernel
theorem dX11_wouldTotalNow_33 : decode cX11_wouldTotalNow 33 = .ok (.iload_n 3, 1) := by decide +kernel
theorem dX11_wouldTotalNow_34 : decode cX11_wouldTotalNow 34 = .ok (.bipush 8, 2) := by decide +kernel
theorem dX11_wouldTotalNow_36 : decode cX11_wouldTotalNow 36 = .ok (.newarray .int, 2) := by decide +kernel
theorem dX11_wouldTotalNow_38 : decode cX11_wouldTotalNow 38 = .ok (.aastore, 1) := by decide +kernel
theorem dX11_wouldTotalNow_39 : decode cX11_wouldTotalNow 39 = .ok (.aload 4, 2) := by decide +kernel
theorem dX11_wouldTotalNow_41 : decode cX11_wouldTotalNow 41 = .ok (.getfield 154, 3) := by decide +kernel
theorem dX11_wouldTotalNow_44 : decode cX11_wouldTotalNow 44 = .ok (.iconst 0, 1) := by decide +kernel
theorem dX11_wouldTotalNow_45 : decode cX11_wouldTotalNow 45 = .ok (.aload_n 2, 1) := by decide +kernel
theorem dX11_wouldTotalNow_46 : decode cX11_wouldTotalNow 46 = .ok (.iload_n 3, 1) := by decide +kernel
theorem dX11_wouldTotalNow_47 : decode cX11_wouldTotalNow 47 = .ok (.aaload, 1) := by decide +kernel
theorem dX11_wouldTotalNow_48 : decode cX11_wouldTotalNow 48 = .ok (.iconst 0, 1) := by decide +kernel
theorem dX11_wouldTotalNow_49 : decode cX11_wouldTotalNow 49 = .ok (.bipush 8, 2) := by decide +kernel
theorem dX11_wouldTotalNow_51 : decode cX11_wouldTotalNow 51 = .ok (.invokestatic 312, 3) := by decide +kernel
theorem dX11_wouldTotalNow_54 : decode cX11_wouldTotalNow 54 = .ok (.iconst 0, 1) := by decide +kernel
theorem dX11_wouldTotalNow_55 : decode cX11_wouldTotalNow 55 = .ok (.istore 5, 2) := by decide +kernel
theorem dX11_wouldTotalNow_57 : decode cX11_wouldTotalNow 57 = .ok (.iload 5, 2) := by decide +kernel
theorem dX11_wouldTotalNow_59 : decode cX11_wouldTotalNow 59 = .ok (.aload_n 0, 1) := by decide +kernel
theorem dX11_wouldTotalNow_60 : decode cX11_wouldTotalNow 60 = .ok (.getfield 25, 3) := by decide +kernel
theorem dX11_wouldTotalNow_63 : decode cX11_wouldTotalNow 63 = .ok (.invokevirtual 67, 3) := by decide +kernel
theorem dX11_wouldTotalNow_66 : decode cX11_wouldTotalNow 66 = .ok (.if_icmp .ge 59, 3) := by decide +kernel
theorem dX11_wouldTotalNow_69 : decode cX11_wouldTotalNow 69 = .ok (.aload 4, 2) := by decide +kernel
theorem dX11_wouldTotalNow_71 : decode cX11_wouldTotalNow 71 = .ok (.getfield 154, 3) := by decide +kernel
theorem dX11_wouldTotalNow_74 : decode cX11_wouldTotalNow 74 = .ok (.iload 5, 2) := by decide +kernel
theorem dX11_wouldTotalNow_76 : decode cX11_wouldTotalNow 76 = .ok (.iconst 0, 1) := by decide +kernel
theorem dX11_wouldTotalNow_77 : decode cX11_wouldTotalNow 77 = .ok (.aload 4, 2) := by decide +kernel
theorem dX11_wouldTotalNow_79 : decode cX11_wouldTotalNow 79 = .ok (.getfield 154, 3) := by decide +kernel
theorem dX11_wouldTotalNow_82 : decode cX11_wouldTotalNow 82 = .ok (.iload 5, 2) := by decide +kernel
theorem dX11_wouldTotalNow_84 : decode cX11_wouldTotalNow 84 = .ok (.iaload, 1) := by decide +kernel
theorem dX11_wouldTotalNow_85 : decode cX11_wouldTotalNow 85 = .ok (.iconst 0, 1) := by decide +kernel
theorem dX11_wouldTotalNow_86 : decode cX11_wouldTotalNow 86 = .ok (.iload_n 1, 1) := by decide +kernel
theorem dX11_wouldTotalNow_87 : decode cX11_wouldTotalNow 87 = .ok (.aload 4, 2) := by decide +kernel
theorem dX11_wouldTotalNow_89 : decode cX11_wouldTotalNow 89 = .ok (.getfield 197, 3) := by decide +kernel
theorem dX11_wouldTotalNow_92 : decode cX11_wouldTotalNow 92 = .ok (.iload 5, 2) := by decide +kernel
theorem dX11_wouldTotalNow_94 : decode cX11_wouldTotalNow 94 = .ok (.baload, 1) := by decide +kernel
theorem dX11_wouldTotalNow_95 : decode cX11_wouldTotalNow 95 = .ok (.ifCond .eq 7, 3) := by decide +kernel
theorem dX11_wouldTotalNow_98 : decode cX11_wouldTotalNow 98 = .ok (.iconst 1, 1) := by decide +kernel
theorem dX11_wouldTotalNow_99 : decode cX11_wouldTotalNow 99 = .ok (.goto 4, 3) := by decide +kernel
theorem dX11_wouldTotalNow_102 : decode cX11_wouldTotalNow 102 = .ok (.iconst 0, 1) := by decide +kernel
theorem dX11_wouldTotalNow_103 : decode cX11_wouldTotalNow 103 = .ok (.isub, 1) := by decide +kernel
theorem dX11_wouldTotalNow_104 : decode cX11_wouldTotalNow 104 = .ok (.invokestatic 7, 3) := by decide +kernel
theorem dX11_wouldTotalNow_107 : decode cX11_wouldTotalNow 107 = .ok (.aload_n 0, 1) := by decide +kernel
theorem dX11_wouldTotalNow_108 : decode cX11_wouldTotalNow 108 = .ok (.iload 5, 2) := by decide +kernel
theorem dX11_wouldTotalNow_110 : decode cX11_wouldTotalNow 110 = .ok (.invokevirtual 226, 3) := by decide +kernel
theorem dX11_wouldTotalNow_113 : decode cX11_wouldTotalNow 113 = .ok (.imul, 1) := by decide +kernel
theorem dX11_wouldTotalNow_114 : decode cX11_wouldTotalNow 114 = .ok (.isub, 1) := by decide +kernel
theorem dX11_wouldTotalNow_115 : decode cX11_wouldTotalNow 115 = .ok (.invokestatic 7, 3) := by decide +kernel
theorem dX11_wouldTotalNow_118 : decode cX11_wouldTotalNow 118 = .ok (.iastore, 1) := by decide +kernel
theorem dX11_wouldTotalNow_119 : decode cX11_wouldTotalNow 119 = .ok (.iinc 5 1, 3) := by decide +kernel
theorem dX11_wouldTotalNow_122 : decode cX11_wouldTotalNow 122 = .ok (.goto (-65), 3) := by decide +kernel
theorem dX11_wouldTotalNow_125 : decode cX11_wouldTotalNow 125 = .ok (.iinc 3 1, 3) := by decide +kernel
theorem dX11_wouldTotalNow_128 : decode cX11_wouldTotalNow 128 = .ok (.goto (-115), 3) := by decide +kernel
theorem dX11_wouldTotalNow_131 : decode cX11_wouldTotalNow 131 = .ok (.aload_n 0, 1) := by decide +kernel
theorem dX11_wouldTotalNow_132 : decode cX11_wouldTotalNow 132 = .ok (.aload_n 0, 1) := by decide +kernel
theorem dX11_wouldTotalNow_133 : decode cX11_wouldTotalNow 133 = .ok (.invokevirtual 266, 3) := by decide +kernel
theorem dX11_wouldTotalNow_136 : decode cX11_wouldTotalNow 136 = .ok (.invokevirtual 270, 3) := by decide +kernel
theorem dX11_wouldTotalNow_139 : decode cX11_wouldTotalNow 139 = .ok (.istore_n 3, 1) := by decide +kernel
theorem dX11_wouldTotalNow_140 : decode cX11_wouldTotalNow 140 = .ok (.iconst 0, 1) := by decide +kernel
theorem dX11_wouldTotalNow_141 : decode cX11_wouldTotalNow 141 = .ok (.istore 4, 2) := by decide +kernel
theorem dX11_wouldTotalNow_143 : decode cX11_wouldTotalNow 143 = .ok (.iload 4, 2) := by decide +kernel
theorem dX11_wouldTotalNow_145 : decode cX11_wouldTotalNow 145 = .ok (.aload_n 2, 1) := by decide +kernel
theorem dX11_wouldTotalNow_146 : decode cX11_wouldTotalNow 146 = .ok (.arraylength, 1) := by decide +kernel
theorem dX11_wouldTotalNow_147 : decode cX11_wouldTotalNow 147 = .ok (.if_icmp .ge 35, 3) := by decide +kernel
theorem dX11_wouldTotalNow_150 : decode cX11_wouldTotalNow 150 = .ok (.aload_n 2, 1) := by decide +kernel
theorem dX11_wouldTotalNow_151 : decode cX11_wouldTotalNow 151 = .ok (.iload 4, 2) := by decide +kernel
theorem dX11_wouldTotalNow_153 : decode cX11_wouldTotalNow 153 = .ok (.aaload, 1) := by decide +kernel
theorem dX11_wouldTotalNow_154 : decode cX11_wouldTotalNow 154 = .ok (.iconst 0, 1) := by decide +kernel
theorem dX11_wouldTotalNow_155 : decode cX11_wouldTotalNow 155 = .ok (.aload_n 0, 1) := by decide +kernel
theorem dX11_wouldTotalNow_156 : decode cX11_wouldTotalNow 156 = .ok (.getfield 31, 3) := by decide +kernel
theorem dX11_wouldTotalNow_159 : decode cX11_wouldTotalNow 159 = .ok (.iload 4, 2) := by decide +kernel
theorem dX11_wouldTotalNow_161 : decode cX11_wouldTotalNow 161 = .ok (.invokevirtual 90, 3) := by decide +kernel
theorem dX11_wouldTotalNow_164 : decode cX11_wouldTotalNow 164 = .ok (.checkcast 152, 3) := by decide +kernel
theorem dX11_wouldTotalNow_167 : decode cX11_wouldTotalNow 167 = .ok (.getfield 154, 3) := by decide +kernel
theorem dX11_wouldTotalNow_170 : decode cX11_wouldTotalNow 170 = .ok (.iconst 0, 1) := by decide +kernel
theorem dX11_wouldTotalNow_171 : decode cX11_wouldTotalNow 171 = .ok (.bipush 8, 2) := by decide +kernel
theorem dX11_wouldTotalNow_173 : decode cX11_wouldTotalNow 173 = .ok (.invokestatic 312, 3) := by decide +kernel
theorem dX11_wouldTotalNow_176 : decode cX11_wouldTotalNow 176 = .ok (.iinc 4 1, 3) := by decide +kernel
theorem dX11_wouldTotalNow_179 : decode cX11_wouldTotalNow 179 = .ok (.goto (-36), 3) := by decide +kernel
theorem dX11_wouldTotalNow_182 : decode cX11_wouldTotalNow 182 = .ok (.iload_n 3, 1) := by decide +kernel
theorem dX11_wouldTotalNow_183 : decode cX11_wouldTotalNow 183 = .ok (.ireturn, 1) := by decide +kernel
theorem dX11_wouldTotal_0 : decode cX11_wouldTotal 0 = .ok (.aload_n 0, 1) := by decide +kernel
theorem dX11_wouldTotal_1 : decode cX11_wouldTotal 1 = .ok (.iload_n 1, 1) := by decide +kernel
theorem dX11_wouldTotal_2 : decode cX11_wouldTotal 2 = .ok (.iconst 0, 1) := by decide +kernel
theorem dX11_wouldTotal_3 : decode cX11_wouldTotal 3 = .ok (.bipush 60, 2) := by decide +kernel
theorem dX11_wouldTotal_5 : decode cX11_wouldTotal 5 = .ok (.invokestatic 63, 3) := by decide +kernel
theorem dX11_wouldTotal_8 : decode cX11_wouldTotal 8 = .ok (.ifCond .ne 7, 3) := by decide +kernel
theorem dX11_wouldTotal_11 : decode cX11_wouldTotal 11 = .ok (.iconst 1, 1) := by decide +kernel
theorem dX11_wouldTotal_12 : decode cX11_wouldTotal 12 = .ok (.goto 4, 3) := by decide +kernel
theorem dX11_wouldTotal_15 : decode cX11_wouldTotal 15 = .ok (.iconst 0, 1) := by decide +kernel
theorem dX11_wouldTotal_16 : decode cX11_wouldTotal 16 = .ok (.iconst 1, 1) := by decide +kernel
theorem dX11_wouldTotal_17 : decode cX11_wouldTotal 17 = .ok (.invokevirtual 75, 3) := by decide +kernel
theorem dX11_wouldTotal_20 : decode cX11_wouldTotal 20 = .ok (.ifCond .eq 7, 3) := by decide +kernel
theorem dX11_wouldTotal_23 : decode cX11_wouldTotal 23 = .ok (.iconst 0, 1) := by decide +kernel
theorem dX11_wouldTotal_24 : decode cX11_wouldTotal 24 = .ok (.goto 8, 3) := by decide +kernel
theorem dX11_wouldTotal_27 : decode cX11_wouldTotal 27 = .ok (.aload_n 0, 1) := by decide +kernel
theorem dX11_wouldTotal_28 : decode cX11_wouldTotal 28 = .ok (.iload_n 1, 1) := by decide +kernel
theorem dX11_wouldTotal_29 : decode cX11_wouldTotal 29 = .ok (.invokevirtual 318, 3) := by decide +kernel
theorem dX11_wouldTotal_32 : decode cX11_wouldTotal 32 = .ok (.ireturn, 1) := by decide +kernel
theorem dX11_best_0 : decode cX11_best 0 = .ok (.iload_n 2, 1) := by decide +kernel
theorem dX11_best_1 : decode cX11_best 1 = .ok (.aload_n 1, 1) := by decide +kernel
theorem dX11_best_2 : decode cX11_best 2 = .ok (.arraylength, 1) := by decide +kernel
theorem dX11_best_3 : decode cX11_best 3 = .ok (.iconst 1, 1) := by decide +kernel
theorem dX11_best_4 : decode cX11_best 4 = .ok (.isub, 1) := by decide +kernel
theorem dX11_best_5 : decode cX11_best 5 = .ok (.if_icmp .lt 9, 3) := by decide +kernel
theorem dX11_best_8 : decode cX11_best 8 = .ok (.aload_n 0, 1) := by decide +kernel
theorem dX11_best_9 : decode cX11_best 9 = .ok (.aload_n 1, 1) := by decide +kernel
theorem dX11_best_10 : decode cX11_best 10 = .ok (.invokevirtual 270, 3) := by decide +kernel
theorem dX11_best_13 : decode cX11_best 13 = .ok (.ireturn, 1) := by decide +kernel
theorem dX11_best_14 : decode cX11_best 14 = .ok (.iconst (-1), 1) := by decide +kernel
theorem dX11_best_15 : decode cX11_best 15 = .ok (.istore_n 3, 1) := by decide +kernel
theorem dX11_best_16 : decode cX11_best 16 = .ok (.iload_n 2, 1) := by decide +kernel
theorem dX11_best_17 : decode cX11_best 17 = .ok (.istore 4, 2) := by decide +kernel
theorem dX11_best_19 : decode cX11_best 19 = .ok (.iload 4, 2) := by decide +kernel
theorem dX11_best_21 : decode cX11_best 21 = .ok (.aload_n 1, 1) := by decide +kernel
theorem dX11_best_22 : decode cX11_best 22 = .ok (.arraylength, 1) := by decide +kernel
theorem dX11_best_23 : decode cX11_best 23 = .ok (.if_icmp .ge 36, 3) := by decide +kernel
theorem dX11_best_26 : decode cX11_best 26 = .ok (.aload_n 1, 1) := by decide +kernel
theorem dX11_best_27 : decode cX11_best 27 = .ok (.iload_n 2, 1) := by decide +kernel
theorem dX11_best_28 : decode cX11_best 28 = .ok (.iload 4, 2) := by decide +kernel
theorem dX11_best_30 : decode cX11_best 30 = .ok (.invokestatic 321, 3) := by decide +kernel
theorem dX11_best_33 : decode cX11_best 33 = .ok (.iload_n 3, 1) := by decide +kernel
theorem dX11_best_34 : decode cX11_best 34 = .ok (.aload_n 0, 1) := by decide +kernel
theorem dX11_best_35 : decode cX11_best 35 = .ok (.aload_n 1, 1) := by decide +kernel
theorem dX11_best_36 : decode cX11_best 36 = .ok (.iload_n 2, 1) := by decide +kernel
theorem dX11_best_37 : decode cX11_best 37 = .ok (.iconst 1, 1) := by decide +kernel
theorem dX11_best_38 : decode cX11_best 38 = .ok (.iadd, 1) := by decide +kernel
theorem dX11_best_39 : decode cX11_best 39 = .ok (.invokevirtual 325, 3) := by decide +kernel
theorem dX11_best_42 : decode cX11_best 42 = .ok (.invokestatic 7, 3) := by decide +kernel
theorem dX11_best_45 : decode cX11_best 45 = .ok (.istore_n 3, 1) := by decide +kernel
theorem dX11_best_46 : decode cX11_best 46 = .ok (.aload_n 1, 1) := by decide +kernel
theorem dX11_best_47 : decode cX11_best 47 = .ok (.iload_n 2, 1) := by decide +kernel
theorem dX11_best_48 : decode cX11_best 48 = .ok (.iload 4, 2) := by decide +kernel
theorem dX11_best_50 : decode cX11_best 50 = .ok (.invokestatic 321, 3) := by decide +kernel
theorem dX11_best_53 : decode cX11_best 53 = .ok (.iinc 4 1, 3) := by decide +kernel
theorem dX11_best_56 : decode cX11_best 56 = .ok (.goto (-37), 3) := by decide +kernel
theorem dX11_best_59 : decode cX11_best 59 = .ok (.iload_n 3, 1) := by decide +kernel
theorem dX11_best_60 : decode cX11_best 60 = .ok (.ireturn, 1) := by decide +kernel
theorem dX11_exchange_0 : decode cX11_exchange 0 = .ok (.aload_n 0, 1) := by decide +kernel
theorem dX11_exchange_1 : decode cX11_exchange 1 = .ok (.iload_n 1, 1) := by decide +kernel
theorem dX11_exchange_2 : decode cX11_exchange 2 = .ok (.iaload, 1) := by decide +kernel
theorem dX11_exchange_3 : decode cX11_exchange 3 = .ok (.istore_n 3, 1) := by decide +kernel
theorem dX11_exchange_4 : decode cX11_exchange 4 = .ok (.aload_n 0, 1) := by decide +kernel
theorem dX11_exchange_5 : decode cX11_exchange 5 = .ok (.iload_n 1, 1) := by decide +kernel
theorem dX11_exchange_6 : decode cX11_exchange 6 = .ok (.aload_n 0, 1) := by decide +kernel
theorem dX11_exchange_7 : decode cX11_exchange 7 = .ok (.iload_n 2, 1) := by decide +kernel
theorem dX11_exchange_8 : decode cX11_exchange 8 = .ok (.iaload, 1) := by decide +kernel
theorem dX11_exchange_9 : decode cX11_exchange 9 = .ok (.iastore, 1) := by decide +kernel
theorem dX11_exchange_10 : decode cX11_exchange 10 = .ok (.aload_n 0, 1) := by decide +kernel
theorem dX11_exchange_11 : decode cX11_exchange 11 = .ok (.iload_n 2, 1) := by decide +kernel
theorem dX11_exchange_12 : decode cX11_exchange 12 = .ok (.iload_n 3, 1) := by decide +kernel
theorem dX11_exchange_13 : decode cX11_exchange 13 = .ok (.iastore, 1) := by decide +kernel
theorem dX11_exchange_14 : decode cX11_exchange 14 = .ok (.return_, 1) := by decide +kernel
theorem dX11_bestOrder_0 : decode cX11_bestOrder 0 = .ok (.aload_n 0, 1) := by decide +kernel
theorem dX11_bestOrder_1 : decode cX11_bestOrder 1 = .ok (.aload_n 0, 1) := by decide +kernel
theorem dX11_bestOrder_2 : decode cX11_bestOrder 2 = .ok (.getfield 28, 3) := by decide +kernel
theorem dX11_bestOrder_5 : decode cX11_bestOrder 5 = .ok (.invokevirtual 67, 3) := by decide +kernel
theorem dX11_bestOrder_8 : decode cX11_bestOrder 8 = .ok (.iconst 5, 1) := by decide +kernel
theorem dX11_bestOrder_9 : decode cX11_bestOrder 9 = .ok (.if_icmp .le 7, 3) := by decide +kernel
theorem dX11_bestOrder_12 : decode cX11_bestOrder 12 = .ok (.iconst 1, 1) := by decide +kernel
theorem dX11_bestOrder_13 : decode cX11_bestOrder 13 = .ok (.goto 4, 3) := by decide +kernel
theorem dX11_bestOrder_16 : decode cX11_bestOrder 16 = .ok (.iconst 0, 1) := by decide +kernel
theorem dX11_bestOrder_17 : decode cX11_bestOrder 17 = .ok (.iconst 1, 1) := by decide +kernel
theorem dX11_bestOrder_18 : decode cX11_bestOrder 18 = .ok (.invokevirtual 75, 3) := by decide +kernel
theorem dX11_bestOrder_21 : decode cX11_bestOrder 21 = .ok (.ifCond .eq 7, 3) := by decide +kernel
theorem dX11_bestOrder_24 : decode cX11_bestOrder 24 = .ok (.iconst 0, 1) := by decide +kernel
theorem dX11_bestOrder_25 : decode cX11_bestOrder 25 = .ok (.goto 12, 3) := by decide +kernel
theorem dX11_bestOrder_28 : decode cX11_bestOrder 28 = .ok (.aload_n 0, 1) := by decide +kernel
theorem dX11_bestOrder_29 : decode cX11_bestOrder 29 = .ok (.aload_n 0, 1) := by decide +kernel
theorem dX11_bestOrder_30 : decode cX11_bestOrder 30 = .ok (.invokevirtual 266, 3) := by decide +kernel
theorem dX11_bestOrder_33 : decode cX11_bestOrder 33 = .ok (.iconst 0, 1) := by decide +kernel
theorem dX11_bestOrder_34 : decode cX11_bestOrder 34 = .ok (.invokevirtual 325, 3) := by decide +kernel
theorem dX11_bestOrder_37 : decode cX11_bestOrder 37 = .ok (.ireturn, 1) := by decide +kernel
theorem dX11_bestTeachNow_0 : decode cX11_bestTeachNow 0 = .ok (.aload_n 0, 1) := by decide +kernel
theorem dX11_bestTeachNow_1 : decode cX11_bestTeachNow 1 = .ok (.getfield 31, 3) := by decide +kernel
theorem dX11_bestTeachNow_4 : decode cX11_bestTeachNow 4 = .ok (.iload_n 1, 1) := by decide +kernel
theorem dX11_bestTeachNow_5 : decode cX11_bestTeachNow 5 = .ok (.invokevirtual 90, 3) := by decide +kernel
theorem dX11_bestTeachNow_8 : decode cX11_bestTeachNow 8 = .ok (.checkcast 152, 3) := by decide +kernel
theorem dX11_bestTeachNow_11 : decode cX11_bestTeachNow 11 = .ok (.astore_n 3, 1) := by decide +kernel
theorem dX11_bestTeachNow_12 : decode cX11_bestTeachNow 12 = .ok (.iconst (-1), 1) := by decide +kernel
theorem dX11_bestTeachNow_13 : decode cX11_bestTeachNow 13 = .ok (.istore 4, 2) := by decide +kernel
theorem dX11_bestTeachNow_15 : decode cX11_bestTeachNow 15 = .ok (.iconst 0, 1) := by decide +kernel
theorem dX11_bestTeachNow_16 : decode cX11_bestTeachNow 16 = .ok (.istore 5, 2) := by decide +kernel
theorem dX11_bestTeachNow_18 : decode cX11_bestTeachNow 18 = .ok (.iconst 0, 1) := by decide +kernel
theorem dX11_bestTeachNow_19 : decode cX11_bestTeachNow 19 = .ok (.istore 6, 2) := by decide +kernel
theorem dX11_bestTeachNow_21 : decode cX11_bestTeachNow 21 = .ok (.iload 6, 2) := by decide +kernel
theorem dX11_bestTeachNow_23 : decode cX11_bestTeachNow 23 = .ok (.aload_n 0, 1) := by decide +kernel
theorem dX11_bestTeachNow_24 : decode cX11_bestTeachNow 24 = .ok (.getfield 25, 3) := by decide +kernel
theorem dX11_bestTeachNow_27 : decode cX11_bestTeachNow 27 = .ok (.invokevirtual 67, 3) := by decide +kernel
theorem dX11_bestTeachNow_30 : decode cX11_bestTeachNow 30 = .ok (.if_icmp .ge 101, 3) := by decide +kernel
theorem dX11_bestTeachNow_33 : decode cX11_bestTeachNow 33 = .ok (.aload_n 0, 1) := by decide +kernel
theorem dX11_bestTeachNow_34 : decode cX11_bestTeachNow 34 = .ok (.getfield 25, 3) := by decide +kernel
theorem dX11_bestTeachNow_37 : decode cX11_bestTeachNow 37 = .ok (.iload 6, 2) := by decide +kernel
theorem dX11_bestTeachNow_39 : decode cX11_bestTeachNow 39 = .ok (.invokevirtual 90, 3) := by decide +kernel
theorem dX11_bestTeachNow_42 : decode cX11_bestTeachNow 42 = .ok (.checkcast 121, 3) := by decide +kernel
theorem dX11_bestTeachNow_45 : decode cX11_bestTeachNow 45 = .ok (.getfield 192, 3) := by decide +kernel
theorem dX11_bestTeachNow_48 : decode cX11_bestTeachNow 48 = .ok (.aload_n 3, 1) := by decide +kernel
theorem dX11_bestTeachNow_49 : decode cX11_bestTeachNow 49 = .ok (.getfield 180, 3) := by decide +kernel
theorem dX11_bestTeachNow_52 : decode cX11_bestTeachNow 52 = .ok (.if_icmp .eq 6, 3) := by decide +kernel
theorem dX11_bestTeachNow_55 : decode cX11_bestTeachNow 55 = .ok (.goto 70, 3) := by decide +kernel
theorem dX11_bestTeachNow_58 : decode cX11_bestTeachNow 58 = .ok (.aload_n 3, 1) := by decide +kernel
theorem dX11_bestTeachNow_59 : decode cX11_bestTeachNow 59 = .ok (.getfield 154, 3) := by decide +kernel
theorem dX11_bestTeachNow_62 : decode cX11_bestTeachNow 62 = .ok (.iload 6, 2) := by decide +kernel
theorem dX11_bestTeachNow_64 : decode cX11_bestTeachNow 64 = .ok (.iaload, 1) := by decide +kernel
theorem dX11_bestTeachNow_65 : decode cX11_bestTeachNow 65 = .ok (.istore 7, 2) := by decide +kernel
theorem dX11_bestTeachNow_67 : decode cX11_bestTeachNow 67 = .ok (.aload_n 3, 1) := by decide +kernel
theorem dX11_bestTeachNow_68 : decode cX11_bestTeachNow 68 = .ok (.getfield 154, 3) := by decide +kernel
theorem dX11_bestTeachNow_71 : decode cX11_bestTeachNow 71 = .ok (.iload 6, 2) := by decide +kernel
theorem dX11_bestTeachNow_73 : decode cX11_bestTeachNow 73 = .ok (.aload_n 0, 1) := by decide +kernel
theorem dX11_bestTeachNow_74 : decode cX11_bestTeachNow 74 = .ok (.aload_n 3, 1) := by decide +kernel
theorem dX11_bestTeachNow_75 : decode cX11_bestTeachNow 75 = .ok (.iload 6, 2) := by decide +kernel
theorem dX11_bestTeachNow_77 : decode cX11_bestTeachNow 77 = .ok (.iload_n 2, 1) := by decide +kernel
theorem dX11_bestTeachNow_78 : decode cX11_bestTeachNow 78 = .ok (.invokevirtual 193, 3) := by decide +kernel
theorem dX11_bestTeachNow_81 : decode cX11_bestTeachNow 81 = .ok (.iastore, 1) := by decide +kernel
theorem dX11_bestTeachNow_82 : decode cX11_bestTeachNow 82 = .ok (.aload_n 0, 1) := by decide +kernel
theorem dX11_bestTeachNow_83 : decode cX11_bestTeachNow 83 = .ok (.aload_n 0, 1) := by decide +kernel
theorem dX11_bestTeachNow_84 : decode cX11_bestTeachNow 84 = .ok (.invokevirtual 266, 3) := by decide +kernel
theorem dX11_bestTeachNow_87 : decode cX11_bestTeachNow 87 = .ok (.invokevirtual 270, 3) := by decide +kernel
theorem dX11_bestTeachNow_90 : decode cX11_bestTeachNow 90 = .ok (.istore 8, 2) := by decide +kernel
theorem dX11_bestTeachNow_92 : decode cX11_bestTeachNow 92 = .ok (.aload_n 3, 1) := by decide +kernel
theorem dX11_bestTeachNow_93 : decode cX11_bestTeachNow 93 = .ok (.getfield 154, 3) := by decide +kernel
theorem dX11_bestTeachNow_96 : decode cX11_bestTeachNow 96 = .ok (.iload 6, 2) := by decide +kernel
theorem dX11_bestTeachNow_98 : decode cX11_bestTeachNow 98 = .ok (.iload 7, 2) := by decide +kernel
theorem dX11_bestTeachNow_100 : decode cX11_bestTeachNow 100 = .ok (.iastore, 1) := by decide +kernel
theorem dX11_bestTeachNow_101 : decode cX11_bestTeachNow 101 = .ok (.iload 4, 2) := by decide +kernel
theorem dX11_bestTeachNow_103 : decode cX11_bestTeachNow 103 = .ok (.iconst (-1), 1) := by decide +kernel
theorem dX11_bestTeachNow_104 : decode cX11_bestTeachNow 104 = .ok (.if_icmp .eq 13, 3) := by decide +kernel
theorem dX11_bestTeachNow_107 : decode cX11_bestTeachNow 107 = .ok (.iload 8, 2) := by decide +kernel
theorem dX11_bestTeachNow_109 : decode cX11_bestTeachNow 109 = .ok (.iload 5, 2) := by decide +kernel
theorem dX11_bestTeachNow_111 : decode cX11_bestTeachNow 111 = .ok (.if_icmp .gt 6, 3) := by decide +kernel
theorem dX11_bestTeachNow_114 : decode cX11_bestTeachNow 114 = .ok (.goto 11, 3) := by decide +kernel
theorem dX11_bestTeachNow_117 : decode cX11_bestTeachNow 117 = .ok (.iload 6, 2) := by decide +kernel
theorem dX11_bestTeachNow_119 : decode cX11_bestTeachNow 119 = .ok (.istore 4, 2) := by decide +kernel
theorem dX11_bestTeachNow_121 : decode cX11_bestTeachNow 121 = .ok (.iload 8, 2) := by decide +kernel
theorem dX11_bestTeachNow_123 : decode cX11_bestTeachNow 123 = .ok (.istore 5, 2) := by decide +kernel
theorem dX11_bestTeachNow_125 : decode cX11_bestTeachNow 125 = .ok (.iinc 6 1, 3) := by decide +kernel
theorem dX11_bestTeachNow_128 : decode cX11_bestTeachNow 128 = .ok (.goto (-107), 3) := by decide +kernel
theorem dX11_bestTeachNow_131 : decode cX11_bestTeachNow 131 = .ok (.iload 4, 2) := by decide +kernel
theorem dX11_bestTeachNow_133 : decode cX11_bestTeachNow 133 = .ok (.ireturn, 1) := by decide +kernel
theorem dX11_bestTeach_0 : decode cX11_bestTeach 0 = .ok (.aload_n 0, 1) := by decide +kernel
theorem dX11_bestTeach_1 : decode cX11_bestTeach 1 = .ok (.aload_n 0, 1) := by decide +kernel
theorem dX11_bestTeach_2 : decode cX11_bestTeach 2 = .ok (.iload_n 1, 1) := by decide +kernel
theorem dX11_bestTeach_3 : decode cX11_bestTeach 3 = .ok (.invokevirtual 174, 3) := by decide +kernel
theorem dX11_bestTeach_6 : decode cX11_bestTeach 6 = .ok (.iconst 1, 1) := by decide +kernel
theorem dX11_bestTeach_7 : decode cX11_bestTeach 7 = .ok (.invokevirtual 75, 3) := by decide +kernel
theorem dX11_bestTeach_10 : decode cX11_bestTeach 10 = .ok (.ifCond .ne 26, 3) := by decide +kernel
theorem dX11_bestTeach_13 : decode cX11_bestTeach 13 = .ok (.aload_n 0, 1) := by decide +kernel
theorem dX11_bestTeach_14 : decode cX11_bestTeach 14 = .ok (.iload_n 2, 1) := by decide +kernel
theorem dX11_bestTeach_15 : decode cX11_bestTeach 15 = .ok (.iconst 1, 1) := by decide +kernel
theorem dX11_bestTeach_16 : decode cX11_bestTeach 16 = .ok (.bipush 60, 2) := by decide +kernel
theorem dX11_bestTeach_18 : decode cX11_bestTeach 18 = .ok (.invokestatic 63, 3) := by decide +kernel
theorem dX11_bestTeach_21 : decode cX11_bestTeach 21 = .ok (.ifCond .ne 7, 3) := by decide +kernel
theorem dX11_bestTeach_24 : decode cX11_bestTeach 24 = .ok (.iconst 1, 1) := by decide +kernel
theorem dX11_bestTeach_25 : decode cX11_bestTeach 25 = .ok (.goto 4, 3) := by decide +kernel
theorem dX11_bestTeach_28 : decode cX11_bestTeach 28 = .ok (.iconst 0, 1) := by decide +kernel
theorem dX11_bestTeach_29 : decode cX11_bestTeach 29 = .ok (.iconst 2, 1) := by decide +kernel
theorem dX11_bestTeach_30 : decode cX11_bestTeach 30 = .ok (.invokevirtual 59, 3) := by decide +kernel
theorem dX11_bestTeach_33 : decode cX11_bestTeach 33 = .ok (.ifCond .eq 7, 3) := by decide +kernel
theorem dX11_bestTeach_36 : decode cX11_bestTeach 36 = .ok (.iconst 0, 1) := by decide +kernel
theorem dX11_bestTeach_37 : decode cX11_bestTeach 37 = .ok (.goto 9, 3) := by decide +kernel
theorem dX11_bestTeach_40 : decode cX11_bestTeach 40 = .ok (.aload_n 0, 1) := by decide +kernel
theorem dX11_bestTeach_41 : decode cX11_bestTeach 41 = .ok (.iload_n 1, 1) := by decide +kernel
theorem dX11_bestTeach_42 : decode cX11_bestTeach 42 = .ok (.iload_n 2, 1) := by decide +kernel
theorem dX11_bestTeach_43 : decode cX11_bestTeach 43 = .ok (.invokevirtual 329, 3) := by decide +kernel
theorem dX11_bestTeach_46 : decode cX11_bestTeach 46 = .ok (.ireturn, 1) := by decide +kernel
theorem dX11_blowsForNow_0 : decode cX11_blowsForNow 0 = .ok (.aload_n 0, 1) := by decide +kernel
theorem dX11_blowsForNow_1 : decode cX11_blowsForNow 1 = .ok (.getfield 19, 3) := by decide +kernel
theorem dX11_blowsForNow_4 : decode cX11_blowsForNow 4 = .ok (.iload_n 1, 1) := by decide +kernel
theorem dX11_blowsForNow_5 : decode cX11_blowsForNow 5 = .ok (.invokevirtual 90, 3) := by decide +kernel
theorem dX11_blowsForNow_8 : decode cX11_blowsForNow 8 = .ok (.checkcast 78, 3) := by decide +kernel
theorem dX11_blowsForNow_11 : decode cX11_blowsForNow 11 = .ok (.invokevirtual 332, 3) := by decide +kernel
theorem dX11_blowsForNow_14 : decode cX11_blowsForNow 14 = .ok (.astore_n 2, 1) := by decide +kernel
theorem dX11_blowsForNow_15 : decode cX11_blowsForNow 15 = .ok (.aload_n 2, 1) := by decide +kernel
theorem dX11_blowsForNow_16 : decode cX11_blowsForNow 16 = .ok (.bipush 40, 2) := by decide +kernel
theorem dX11_blowsForNow_18 : decode cX11_blowsForNow 18 = .ok (.invokevirtual 110, 3) := by decide +kernel
theorem dX11_blowsForNow_21 : decode cX11_blowsForNow 21 = .ok (.istore_n 3, 1) := by decide +kernel
theorem dX11_blowsForNow_22 : decode cX11_blowsForNow 22 = .ok (.aload_n 2, 1) := by decide +kernel
theorem dX11_blowsForNow_23 : decode cX11_blowsForNow 23 = .ok (.getfield 94, 3) := by decide +kernel
theorem dX11_blowsForNow_26 : decode cX11_blowsForNow 26 = .ok (.ifCond .ne 15, 3) := by decide +kernel
theorem dX11_blowsForNow_29 : decode cX11_blowsForNow 29 = .ok (.aload_n 2, 1) := by decide +kernel
theorem dX11_blowsForNow_30 : decode cX11_blowsForNow 30 = .ok (.sipush 255, 3) := by decide +kernel
theorem dX11_blowsForNow_33 : decode cX11_blowsForNow 33 = .ok (.invokevirtual 239, 3) := by decide +kernel
theorem dX11_blowsForNow_36 : decode cX11_blowsForNow 36 = .ok (.bipush 8, 2) := by decide +kernel
theorem dX11_blowsForNow_38 : decode cX11_blowsForNow 38 = .ok (.if_icmp .ge 7, 3) := by decide +kernel
theorem dX11_blowsForNow_41 : decode cX11_blowsForNow 41 = .ok (.iconst (-1), 1) := by decide +kernel
theorem dX11_blowsForNow_42 : decode cX11_blowsForNow 42 = .ok (.goto 4, 3) := by decide +kernel
theorem dX11_blowsForNow_45 : decode cX11_blowsForNow 45 = .ok (.iload_n 3, 1) := by decide +kernel
theorem dX11_blowsForNow_46 : decode cX11_blowsForNow 46 = .ok (.ireturn, 1) := by decide +kernel
theorem dX11_blowsFor_0 : decode cX11_blowsFor 0 = .ok (.aload_n 0, 1) := by decide +kernel
theorem dX11_blowsFor_1 : decode cX11_blowsFor 1 = .ok (.aload_n 0, 1) := by decide +kernel
theorem dX11_blowsFor_2 : decode cX11_blowsFor 2 = .ok (.iload_n 1, 1) := by decide +kernel
theorem dX11_blowsFor_3 : decode cX11_blowsFor 3 = .ok (.invokevirtual 87, 3) := by decide +kernel
theorem dX11_blowsFor_6 : decode cX11_blowsFor 6 = .ok (.iconst 1, 1) := by decide +kernel
theorem dX11_blowsFor_7 : decode cX11_blowsFor 7 = .ok (.invokevirtual 75, 3) := by decide +kernel
theorem dX11_blowsFor_10 : decode cX11_blowsFor 10 = .ok (.ifCond .eq 7, 3) := by decide +kernel
theorem dX11_blowsFor_13 : decode cX11_blowsFor 13 = .ok (.iconst 0, 1) := by decide +kernel
theorem dX11_blowsFor_14 : decode cX11_blowsFor 14 = .ok (.goto 8, 3) := by decide +kernel
theorem dX11_blowsFor_17 : decode cX11_blowsFor 17 = .ok (.aload_n 0, 1) := by decide +kernel
theorem dX11_blowsFor_18 : decode cX11_blowsFor 18 = .ok (.iload_n 1, 1) := by decide +kernel
theorem dX11_blowsFor_19 : decode cX11_blowsFor 19 = .ok (.invokevirtual 336, 3) := by decide +kernel
theorem dX11_blowsFor_22 : decode cX11_blowsFor 22 = .ok (.ireturn, 1) := by decide +kernel
theorem dX11_add_0 : decode cX11_add 0 = .ok (.lload_n 0, 1) := by decide +kernel
theorem dX11_add_1 : decode cX11_add 1 = .ok (.ldc2_w 339, 3) := by decide +kernel
theorem dX11_add_4 : decode cX11_add 4 = .ok (.lmul, 1) := by decide +kernel
theorem dX11_add_5 : decode cX11_add 5 = .ok (.lload_n 2, 1) := by decide +kernel
theorem dX11_add_6 : decode cX11_add 6 = .ok (.ladd, 1) := by decide +kernel
theorem dX11_add_7 : decode cX11_add 7 = .ok (.lreturn, 1) := by decide +kernel
theorem dX11_digest_0 : decode cX11_digest 0 = .ok (.aload_n 0, 1) := by decide +kernel
theorem dX11_digest_1 : decode cX11_digest 1 = .ok (.iconst 0, 1) := by decide +kernel
theorem dX11_digest_2 : decode cX11_digest 2 = .ok (.putfield 56, 3) := by decide +kernel
theorem dX11_digest_5 : decode cX11_digest 5 = .ok (.ldc2_w 341, 3) := by decide +kernel
theorem dX11_digest_8 : decode cX11_digest 8 = .ok (.lstore_n 1, 1) := by decide +kernel
theorem dX11_digest_9 : decode cX11_digest 9 = .ok (.iconst 0, 1) := by decide +kernel
theorem dX11_digest_10 : decode cX11_digest 10 = .ok (.istore_n 3, 1) := by decide +kernel
theorem dX11_digest_11 : decode cX11_digest 11 = .ok (.iload_n 3, 1) := by decide +kernel
theorem dX11_digest_12 : decode cX11_digest 12 = .ok (.bipush 14, 2) := by decide +kernel
theorem dX11_digest_14 : decode cX11_digest 14 = .ok (.if_icmp .ge 20, 3) := by decide +kernel
theorem dX11_digest_17 : decode cX11_digest 17 = .ok (.lload_n 1, 1) := by decide +kernel
theorem dX11_digest_18 : decode cX11_digest 18 = .ok (.aload_n 0, 1) := by decide +kernel
theorem dX11_digest_19 : decode cX11_digest 19 = .ok (.iload_n 3, 1) := by decide +kernel
theorem dX11_digest_20 : decode cX11_digest 20 = .ok (.invokevirtual 309, 3) := by decide +kernel
theorem dX11_digest_23 : decode cX11_digest 23 = .ok (.i2l, 1) := by decide +kernel
theorem dX11_digest_24 : decode cX11_digest 24 = .ok (.invokestatic 343, 3) := by decide +kernel
theorem dX11_digest_27 : decode cX11_digest 27 = .ok (.lstore_n 1, 1) := by decide +kernel
theorem dX11_digest_28 : decode cX11_digest 28 = .ok (.iinc 3 1, 3) := by decide +kernel
theorem dX11_digest_31 : decode cX11_digest 31 = .ok (.goto (-20), 3) := by decide +kernel
theorem dX11_digest_34 : decode cX11_digest 34 = .ok (.iconst 0, 1) := by decide +kernel
theorem dX11_digest_35 : decode cX11_digest 35 = .ok (.istore_n 3, 1) := by decide +kernel
theorem dX11_digest_36 : decode cX11_digest 36 = .ok (.iload_n 3, 1) := by decide +kernel
theorem dX11_digest_37 : decode cX11_digest 37 = .ok (.aload_n 0, 1) := by decide +kernel
theorem dX11_digest_38 : decode cX11_digest 38 = .ok (.getfield 19, 3) := by decide +kernel
theorem dX11_digest_41 : decode cX11_digest 41 = .ok (.invokevirtual 67, 3) := by decide +kernel
theorem dX11_digest_44 : decode cX11_digest 44 = .ok (.if_icmp .ge 87, 3) := by decide +kernel
theorem dX11_digest_47 : decode cX11_digest 47 = .ok (.iconst 0, 1) := by decide +kernel
theorem dX11_digest_48 : decode cX11_digest 48 = .ok (.istore 4, 2) := by decide +kernel
theorem dX11_digest_50 : decode cX11_digest 50 = .ok (.iload 4, 2) := by decide +kernel
theorem dX11_digest_52 : decode cX11_digest 52 = .ok (.iconst 5, 1) := by decide +kernel
theorem dX11_digest_53 : decode cX11_digest 53 = .ok (.if_icmp .ge 22, 3) := by decide +kernel
theorem dX11_digest_56 : decode cX11_digest 56 = .ok (.lload_n 1, 1) := by decide +kernel
theorem dX11_digest_57 : decode cX11_digest 57 = .ok (.aload_n 0, 1) := by decide +kernel
theorem dX11_digest_58 : decode cX11_digest 58 = .ok (.iload_n 3, 1) := by decide +kernel
theorem dX11_digest_59 : decode cX11_digest 59 = .ok (.iload 4, 2) := by decide +kernel
theorem dX11_digest_61 : decode cX11_digest 61 = .ok (.invokevirtual 294, 3) := by decide +kernel
theorem dX11_digest_64 : decode cX11_digest 64 = .ok (.i2l, 1) := by decide +kernel
theorem dX11_digest_65 : decode cX11_digest 65 = .ok (.invokestatic 343, 3) := by decide +kernel
theorem dX11_digest_68 : decode cX11_digest 68 = .ok (.lstore_n 1, 1) := by decide +kernel
theorem dX11_digest_69 : decode cX11_digest 69 = .ok (.iinc 4 1, 3) := by decide +kernel
theorem dX11_digest_72 : decode cX11_digest 72 = .ok (.goto (-22), 3) := by decide +kernel
theorem dX11_digest_75 : decode cX11_digest 75 = .ok (.iconst 0, 1) := by decide +kernel
theorem dX11_digest_76 : decode cX11_digest 76 = .ok (.istore 4, 2) := by decide +kernel
theorem dX11_digest_78 : decode cX11_digest 78 = .ok (.iload 4, 2) := by decide +kernel
theorem dX11_digest_80 : decode cX11_digest 80 = .ok (.bipush 8, 2) := by decide +kernel
theorem dX11_digest_82 : decode cX11_digest 82 = .ok (.if_icmp .ge 32, 3) := by decide +kernel
theorem dX11_digest_85 : decode cX11_digest 85 = .ok (.lload_n 1, 1) := by decide +kernel
theorem dX11_digest_86 : decode cX11_digest 86 = .ok (.aload_n 0, 1) := by decide +kernel
theorem dX11_digest_87 : decode cX11_digest 87 = .ok (.getfield 19, 3) := by decide +kernel
theorem dX11_digest_90 : decode cX11_digest 90 = .ok (.iload_n 3, 1) := by decide +kernel
theorem dX11_digest_91 : decode cX11_digest 91 = .ok (.invokevirtual 90, 3) := by decide +kernel
theorem dX11_digest_94 : decode cX11_digest 94 = .ok (.checkcast 78, 3) := by decide +kernel
theorem dX11_digest_97 : decode cX11_digest 97 = .ok (.getfield 101, 3) := by decide +kernel
theorem dX11_digest_100 : decode cX11_digest 100 = .ok (.iload 4, 2) := by decide +kernel
theorem dX11_digest_102 : decode cX11_digest 102 = .ok (.iaload, 1) := by decide +kernel
theorem dX11_digest_103 : decode cX11_digest 103 = .ok (.i2l, 1) := by decide +kernel
theorem dX11_digest_104 : decode cX11_digest 104 = .ok (.invokestatic 343, 3) := by decide +kernel
theorem dX11_digest_107 : decode cX11_digest 107 = .ok (.lstore_n 1, 1) := by decide +kernel
theorem dX11_digest_108 : decode cX11_digest 108 = .ok (.iinc 4 1, 3) := by decide +kernel
theorem dX11_digest_111 : decode cX11_digest 111 = .ok (.goto (-33), 3) := by decide +kernel
theorem dX11_digest_114 : decode cX11_digest 114 = .ok (.lload_n 1, 1) := by decide +kernel
theorem dX11_digest_115 : decode cX11_digest 115 = .ok (.aload_n 0, 1) := by decide +kernel
theorem dX11_digest_116 : decode cX11_digest 116 = .ok (.iload_n 3, 1) := by decide +kernel
theorem dX11_digest_117 : decode cX11_digest 117 = .ok (.invokevirtual 336, 3) := by decide +kernel
theorem dX11_digest_120 : decode cX11_digest 120 = .ok (.i2l, 1) := by decide +kernel
theorem dX11_digest_121 : decode cX11_digest 121 = .ok (.invokestatic 343, 3) := by decide +kernel
theorem dX11_digest_124 : decode cX11_digest 124 = .ok (.lstore_n 1, 1) := by decide +kernel
theorem dX11_digest_125 : decode cX11_digest 125 = .ok (.iinc 3 1, 3) := by decide +kernel
theorem dX11_digest_128 : decode cX11_digest 128 = .ok (.goto (-92), 3) := by decide +kernel
theorem dX11_digest_131 : decode cX11_digest 131 = .ok (.iconst 0, 1) := by decide +kernel
theorem dX11_digest_132 : decode cX11_digest 132 = .ok (.istore_n 3, 1) := by decide +kernel
theorem dX11_digest_133 : decode cX11_digest 133 = .ok (.iload_n 3, 1) := by decide +kernel
theorem dX11_digest_134 : decode cX11_digest 134 = .ok (.aload_n 0, 1) := by decide +kernel
theorem dX11_digest_135 : decode cX11_digest 135 = .ok (.getfield 25, 3) := by decide +kernel
theorem dX11_digest_138 : decode cX11_digest 138 = .ok (.invokevirtual 67, 3) := by decide +kernel
theorem dX11_digest_141 : decode cX11_digest 141 = .ok (.if_icmp .ge 37, 3) := by decide +kernel
theorem dX11_digest_144 : decode cX11_digest 144 = .ok (.iconst 0, 1) := by decide +kernel
theorem dX11_digest_145 : decode cX11_digest 145 = .ok (.istore 4, 2) := by decide +kernel
theorem dX11_digest_147 : decode cX11_digest 147 = .ok (.iload 4, 2) := by decide +kernel
theorem dX11_digest_149 : decode cX11_digest 149 = .ok (.iconst 5, 1) := by decide +kernel
theorem dX11_digest_150 : decode cX11_digest 150 = .ok (.if_icmp .ge 22, 3) := by decide +kernel
theorem dX11_digest_153 : decode cX11_digest 153 = .ok (.lload_n 1, 1) := by decide +kernel
theorem dX11_digest_154 : decode cX11_digest 154 = .ok (.aload_n 0, 1) := by decide +kernel
theorem dX11_digest_155 : decode cX11_digest 155 = .ok (.iload_n 3, 1) := by decide +kernel
theorem dX11_digest_156 : decode cX11_digest 156 = .ok (.iload 4, 2) := by decide +kernel
theorem dX11_digest_158 : decode cX11_digest 158 = .ok (.invokevirtual 297, 3) := by decide +kernel
theorem dX11_digest_161 : decode cX11_digest 161 = .ok (.i2l, 1) := by decide +kernel
theorem dX11_digest_162 : decode cX11_digest 162 = .ok (.invokestatic 343, 3) := by decide +kernel
theorem dX11_digest_165 : decode cX11_digest 165 = .ok (.lstore_n 1, 1) := by decide +kernel
theorem dX11_digest_166 : decode cX11_digest 166 = .ok (.iinc 4 1, 3) := by decide +kernel
theorem dX11_digest_169 : decode cX11_digest 169 = .ok (.goto (-22), 3) := by decide +kernel
theorem dX11_digest_172 : decode cX11_digest 172 = .ok (.iinc 3 1, 3) := by decide +kernel
theorem dX11_digest_175 : decode cX11_digest 175 = .ok (.goto (-42), 3) := by decide +kernel
theorem dX11_digest_178 : decode cX11_digest 178 = .ok (.iconst 0, 1) := by decide +kernel
theorem dX11_digest_179 : decode cX11_digest 179 = .ok (.istore_n 3, 1) := by decide +kernel
theorem dX11_digest_180 : decode cX11_digest 180 = .ok (.iload_n 3, 1) := by decide +kernel
theorem dX11_digest_181 : decode cX11_digest 181 = .ok (.aload_n 0, 1) := by decide +kernel
theorem dX11_digest_182 : decode cX11_digest 182 = .ok (.getfield 31, 3) := by decide +kernel
theorem dX11_digest_185 : decode cX11_digest 185 = .ok (.invokevirtual 67, 3) := by decide +kernel
theorem dX11_digest_188 : decode cX11_digest 188 = .ok (.if_icmp .ge 95, 3) := by decide +kernel
theorem dX11_digest_191 : decode cX11_digest 191 = .ok (.iconst 0, 1) := by decide +kernel
theorem dX11_digest_192 : decode cX11_digest 192 = .ok (.istore 4, 2) := by decide +kernel
theorem dX11_digest_194 : decode cX11_digest 194 = .ok (.iload 4, 2) := by decide +kernel
theorem dX11_digest_196 : decode cX11_digest 196 = .ok (.bipush 7, 2) := by decide +kernel
theorem dX11_digest_198 : decode cX11_digest 198 = .ok (.if_icmp .ge 22, 3) := by decide +kernel
theorem dX11_digest_201 : decode cX11_digest 201 = .ok (.lload_n 1, 1) := by decide +kernel
theorem dX11_digest_202 : decode cX11_digest 202 = .ok (.aload_n 0, 1) := by decide +kernel
theorem dX11_digest_203 : decode cX11_digest 203 = .ok (.iload_n 3, 1) := by decide +kernel
theorem dX11_digest_204 : decode cX11_digest 204 = .ok (.iload 4, 2) := by decide +kernel
theorem dX11_digest_206 : decode cX11_digest 206 = .ok (.invokevirtual 303, 3) := by decide +kernel
theorem dX11_digest_209 : decode cX11_digest 209 = .ok (.i2l, 1) := by decide +kernel
theorem dX11_digest_210 : decode cX11_digest 210 = .ok (.invokestatic 343, 3) := by decide +kernel
theorem dX11_digest_213 : decode cX11_digest 213 = .ok (.lstore_n 1, 1) := by decide +kernel
theorem dX11_digest_214 : decode cX11_digest 214 = .ok (.iinc 4 1, 3) := by decide +kernel
theorem dX11_digest_217 : decode cX11_digest 217 = .ok (.goto (-23), 3) := by decide +kernel
theorem dX11_digest_220 : decode cX11_digest 220 = .ok (.iconst 0, 1) := by decide +kernel
theorem dX11_digest_221 : decode cX11_digest 221 = .ok (.istore 4, 2) := by decide +kernel
theorem dX11_digest_223 : decode cX11_digest 223 = .ok (.iload 4, 2) := by decide +kernel
theorem dX11_digest_225 : decode cX11_digest 225 = .ok (.aload_n 0, 1) := by decide +kernel
theorem dX11_digest_226 : decode cX11_digest 226 = .ok (.getfield 25, 3) := by decide +kernel
theorem dX11_digest_229 : decode cX11_digest 229 = .ok (.invokevirtual 67, 3) := by decide +kernel
theorem dX11_digest_232 : decode cX11_digest 232 = .ok (.if_icmp .ge 32, 3) := by decide +kernel
theorem dX11_digest_235 : decode cX11_digest 235 = .ok (.lload_n 1, 1) := by decide +kernel
theorem dX11_digest_236 : decode cX11_digest 236 = .ok (.aload_n 0, 1) := by decide +kernel
theorem dX11_digest_237 : decode cX11_digest 237 = .ok (.getfield 31, 3) := by decide +kernel
theorem dX11_digest_240 : decode cX11_digest 240 = .ok (.iload_n 3, 1) := by decide +kernel
theorem dX11_digest_241 : decode cX11_digest 241 = .ok (.invokevirtual 90, 3) := by decide +kernel
theorem dX11_digest_244 : decode cX11_digest 244 = .ok (.checkcast 152, 3) := by decide +kernel
theorem dX11_digest_247 : decode cX11_digest 247 = .ok (.getfield 154, 3) := by decide +kernel
theorem dX11_digest_250 : decode cX11_digest 250 = .ok (.iload 4, 2) := by decide +kernel
theorem dX11_digest_252 : decode cX11_digest 252 = .ok (.iaload, 1) := by decide +kernel
theorem dX11_digest_253 : decode cX11_digest 253 = .ok (.i2l, 1) := by decide +kernel
theorem dX11_digest_254 : decode cX11_digest 254 = .ok (.invokestatic 343, 3) := by decide +kernel
theorem dX11_digest_257 : decode cX11_digest 257 = .ok (.lstore_n 1, 1) := by decide +kernel
theorem dX11_digest_258 : decode cX11_digest 258 = .ok (.iinc 4 1, 3) := by decide +kernel
theorem dX11_digest_261 : decode cX11_digest 261 = .ok (.goto (-38), 3) := by decide +kernel
theorem dX11_digest_264 : decode cX11_digest 264 = .ok (.lload_n 1, 1) := by decide +kernel
theorem dX11_digest_265 : decode cX11_digest 265 = .ok (.aload_n 0, 1) := by decide +kernel
theorem dX11_digest_266 : decode cX11_digest 266 = .ok (.iload_n 3, 1) := by decide +kernel
theorem dX11_digest_267 : decode cX11_digest 267 = .ok (.bipush 20, 2) := by decide +kernel
theorem dX11_digest_269 : decode cX11_digest 269 = .ok (.invokevirtual 329, 3) := by decide +kernel
theorem dX11_digest_272 : decode cX11_digest 272 = .ok (.i2l, 1) := by decide +kernel
theorem dX11_digest_273 : decode cX11_digest 273 = .ok (.invokestatic 343, 3) := by decide +kernel
theorem dX11_digest_276 : decode cX11_digest 276 = .ok (.lstore_n 1, 1) := by decide +kernel
theorem dX11_digest_277 : decode cX11_digest 277 = .ok (.iinc 3 1, 3) := by decide +kernel
theorem dX11_digest_280 : decode cX11_digest 280 = .ok (.goto (-100), 3) := by decide +kernel
theorem dX11_digest_283 : decode cX11_digest 283 = .ok (.aload_n 0, 1) := by decide +kernel
theorem dX11_digest_284 : decode cX11_digest 284 = .ok (.invokevirtual 266, 3) := by decide +kernel
theorem dX11_digest_287 : decode cX11_digest 287 = .ok (.astore_n 3, 1) := by decide +kernel
theorem dX11_digest_288 : decode cX11_digest 288 = .ok (.iconst 0, 1) := by decide +kernel
theorem dX11_digest_289 : decode cX11_digest 289 = .ok (.istore 4, 2) := by decide +kernel
theorem dX11_digest_291 : decode cX11_digest 291 = .ok (.iload 4, 2) := by decide +kernel
theorem dX11_digest_293 : decode cX11_digest 293 = .ok (.aload_n 3, 1) := by decide +kernel
theorem dX11_digest_294 : decode cX11_digest 294 = .ok (.arraylength, 1) := by decide +kernel
theorem dX11_digest_295 : decode cX11_digest 295 = .ok (.if_icmp .ge 33, 3) := by decide +kernel
theorem dX11_digest_298 : decode cX11_digest 298 = .ok (.lload_n 1, 1) := by decide +kernel
theorem dX11_digest_299 : decode cX11_digest 299 = .ok (.aload_n 3, 1) := by decide +kernel
theorem dX11_digest_300 : decode cX11_digest 300 = .ok (.iload 4, 2) := by decide +kernel
theorem dX11_digest_302 : decode cX11_digest 302 = .ok (.iaload, 1) := by decide +kernel
theorem dX11_digest_303 : decode cX11_digest 303 = .ok (.i2l, 1) := by decide +kernel
theorem dX11_digest_304 : decode cX11_digest 304 = .ok (.invokestatic 343, 3) := by decide +kernel
theorem dX11_digest_307 : decode cX11_digest 307 = .ok (.aload_n 0, 1) := by decide +kernel
theorem dX11_digest_308 : decode cX11_digest 308 = .ok (.iload 4, 2) := by decide +kernel
theorem dX11_digest_310 : decode cX11_digest 310 = .ok (.aload_n 3, 1) := by decide +kernel
theorem dX11_digest_311 : decode cX11_digest 311 = .ok (.iload 4, 2) := by decide +kernel
theorem dX11_digest_313 : decode cX11_digest 313 = .ok (.iaload, 1) := by decide +kernel
theorem dX11_digest_314 : decode cX11_digest 314 = .ok (.invokevirtual 259, 3) := by decide +kernel
theorem dX11_digest_317 : decode cX11_digest 317 = .ok (.i2l, 1) := by decide +kernel
theorem dX11_digest_318 : decode cX11_digest 318 = .ok (.invokestatic 343, 3) := by decide +kernel
theorem dX11_digest_321 : decode cX11_digest 321 = .ok (.lstore_n 1, 1) := by decide +kernel
theorem dX11_digest_322 : decode cX11_digest 322 = .ok (.iinc 4 1, 3) := by decide +kernel
theorem dX11_digest_325 : decode cX11_digest 325 = .ok (.goto (-34), 3) := by decide +kernel
theorem dX11_digest_328 : decode cX11_digest 328 = .ok (.iconst 0, 1) := by decide +kernel
theorem dX11_digest_329 : decode cX11_digest 329 = .ok (.istore 4, 2) := by decide +kernel
theorem dX11_digest_331 : decode cX11_digest 331 = .ok (.iload 4, 2) := by decide +kernel
theorem dX11_digest_333 : decode cX11_digest 333 = .ok (.iconst 4, 1) := by decide +kernel
theorem dX11_digest_334 : decode cX11_digest 334 = .ok (.if_icmp .ge 22, 3) := by decide +kernel
theorem dX11_digest_337 : decode cX11_digest 337 = .ok (.lload_n 1, 1) := by decide +kernel
theorem dX11_digest_338 : decode cX11_digest 338 = .ok (.aload_n 0, 1) := by decide +kernel
theorem dX11_digest_339 : decode cX11_digest 339 = .ok (.iload 4, 2) := by decide +kernel
theorem dX11_digest_341 : decode cX11_digest 341 = .ok (.aload_n 3, 1) := by decide +kernel
theorem dX11_digest_342 : decode cX11_digest 342 = .ok (.invokevirtual 262, 3) := by decide +kernel
theorem dX11_digest_345 : decode cX11_digest 345 = .ok (.i2l, 1) := by decide +kernel
theorem dX11_digest_346 : decode cX11_digest 346 = .ok (.invokestatic 343, 3) := by decide +kernel
theorem dX11_digest_349 : decode cX11_digest 349 = .ok (.lstore_n 1, 1) := by decide +kernel
theorem dX11_digest_350 : decode cX11_digest 350 = .ok (.iinc 4 1, 3) := by decide +kernel
theorem dX11_digest_353 : decode cX11_digest 353 = .ok (.goto (-22), 3) := by decide +kernel
theorem dX11_digest_356 : decode cX11_digest 356 = .ok (.iconst 0, 1) := by decide +kernel
theorem dX11_digest_357 : decode cX11_digest 357 = .ok (.istore 4, 2) := by decide +kernel
theorem dX11_digest_359 : decode cX11_digest 359 = .ok (.iload 4, 2) := by decide +kernel
theorem dX11_digest_361 : decode cX11_digest 361 = .ok (.iconst 3, 1) := by decide +kernel
theorem dX11_digest_362 : decode cX11_digest 362 = .ok (.if_icmp .ge 37, 3) := by decide +kernel
theorem dX11_digest_365 : decode cX11_digest 365 = .ok (.lload_n 1, 1) := by decide +kernel
theorem dX11_digest_366 : decode cX11_digest 366 = .ok (.aload_n 0, 1) := by decide +kernel
theorem dX11_digest_367 : decode cX11_digest 367 = .ok (.getfield 45, 3) := by decide +kernel
theorem dX11_digest_370 : decode cX11_digest 370 = .ok (.iload 4, 2) := by decide +kernel
theorem dX11_digest_372 : decode cX11_digest 372 = .ok (.aaload, 1) := by decide +kernel
theorem dX11_digest_373 : decode cX11_digest 373 = .ok (.iconst 0, 1) := by decide +kernel
theorem dX11_digest_374 : decode cX11_digest 374 = .ok (.iaload, 1) := by decide +kernel
theorem dX11_digest_375 : decode cX11_digest 375 = .ok (.i2l, 1) := by decide +kernel
theorem dX11_digest_376 : decode cX11_digest 376 = .ok (.invokestatic 343, 3) := by decide +kernel
theorem dX11_digest_379 : decode cX11_digest 379 = .ok (.aload_n 0, 1) := by decide +kernel
theorem dX11_digest_380 : decode cX11_digest 380 = .ok (.getfield 45, 3) := by decide +kernel
theorem dX11_digest_383 : decode cX11_digest 383 = .ok (.iload 4, 2) := by decide +kernel
theorem dX11_digest_385 : decode cX11_digest 385 = .ok (.aaload, 1) := by decide +kernel
theorem dX11_digest_386 : decode cX11_digest 386 = .ok (.iconst 1, 1) := by decide +kernel
theorem dX11_digest_387 : decode cX11_digest 387 = .ok (.iaload, 1) := by decide +kernel
theorem dX11_digest_388 : decode cX11_digest 388 = .ok (.i2l, 1) := by decide +kernel
theorem dX11_digest_389 : decode cX11_digest 389 = .ok (.invokestatic 343, 3) := by decide +kernel
theorem dX11_digest_392 : decode cX11_digest 392 = .ok (.lstore_n 1, 1) := by decide +kernel
theorem dX11_digest_393 : decode cX11_digest 393 = .ok (.iinc 4 1, 3) := by decide +kernel
theorem dX11_digest_396 : decode cX11_digest 396 = .ok (.goto (-37), 3) := by decide +kernel
theorem dX11_digest_399 : decode cX11_digest 399 = .ok (.lload_n 1, 1) := by decide +kernel
theorem dX11_digest_400 : decode cX11_digest 400 = .ok (.aload_n 0, 1) := by decide +kernel
theorem dX11_digest_401 : decode cX11_digest 401 = .ok (.iconst 5, 1) := by decide +kernel
theorem dX11_digest_402 : decode cX11_digest 402 = .ok (.invokevirtual 318, 3) := by decide +kernel
theorem dX11_digest_405 : decode cX11_digest 405 = .ok (.i2l, 1) := by decide +kernel
theorem dX11_digest_406 : decode cX11_digest 406 = .ok (.invokestatic 343, 3) := by decide +kernel
theorem dX11_digest_409 : decode cX11_digest 409 = .ok (.lstore_n 1, 1) := by decide +kernel
theorem dX11_digest_410 : decode cX11_digest 410 = .ok (.aload_n 3, 1) := by decide +kernel
theorem dX11_digest_411 : decode cX11_digest 411 = .ok (.arraylength, 1) := by decide +kernel
theorem dX11_digest_412 : decode cX11_digest 412 = .ok (.iconst 5, 1) := by decide +kernel
theorem dX11_digest_413 : decode cX11_digest 413 = .ok (.if_icmp .le 7, 3) := by decide +kernel
theorem dX11_digest_416 : decode cX11_digest 416 = .ok (.lload_n 1, 1) := by decide +kernel
theorem dX11_digest_417 : decode cX11_digest 417 = .ok (.goto 14, 3) := by decide +kernel
theorem dX11_digest_420 : decode cX11_digest 420 = .ok (.lload_n 1, 1) := by decide +kernel
theorem dX11_digest_421 : decode cX11_digest 421 = .ok (.aload_n 0, 1) := by decide +kernel
theorem dX11_digest_422 : decode cX11_digest 422 = .ok (.aload_n 3, 1) := by decide +kernel
theorem dX11_digest_423 : decode cX11_digest 423 = .ok (.iconst 0, 1) := by decide +kernel
theorem dX11_digest_424 : decode cX11_digest 424 = .ok (.invokevirtual 325, 3) := by decide +kernel
theorem dX11_digest_427 : decode cX11_digest 427 = .ok (.i2l, 1) := by decide +kernel
theorem dX11_digest_428 : decode cX11_digest 428 = .ok (.invokestatic 343, 3) := by decide +kernel
theorem dX11_digest_431 : decode cX11_digest 431 = .ok (.lreturn, 1) := by decide +kernel
