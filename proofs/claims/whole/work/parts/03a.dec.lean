theorem dX0_init_0 : decode cX0_init 0 = .ok (.aload_n 0, 1) := by decide +kernel
theorem dX0_init_1 : decode cX0_init 1 = .ok (.invokespecial 3, 3) := by decide +kernel
theorem dX0_init_4 : decode cX0_init 4 = .ok (.aload_n 0, 1) := by decide +kernel
theorem dX0_init_5 : decode cX0_init 5 = .ok (.bipush 16, 2) := by decide +kernel
theorem dX0_init_7 : decode cX0_init 7 = .ok (.newarray .int, 2) := by decide +kernel
theorem dX0_init_9 : decode cX0_init 9 = .ok (.putfield 11, 3) := by decide +kernel
theorem dX0_init_12 : decode cX0_init 12 = .ok (.return_, 1) := by decide +kernel
theorem dX0_begin_0 : decode cX0_begin 0 = .ok (.aload_n 0, 1) := by decide +kernel
theorem dX0_begin_1 : decode cX0_begin 1 = .ok (.getfield 15, 3) := by decide +kernel
theorem dX0_begin_4 : decode cX0_begin 4 = .ok (.bipush 16, 2) := by decide +kernel
theorem dX0_begin_6 : decode cX0_begin 6 = .ok (.if_icmp .ge 23, 3) := by decide +kernel
theorem dX0_begin_9 : decode cX0_begin 9 = .ok (.aload_n 0, 1) := by decide +kernel
theorem dX0_begin_10 : decode cX0_begin 10 = .ok (.getfield 11, 3) := by decide +kernel
theorem dX0_begin_13 : decode cX0_begin 13 = .ok (.aload_n 0, 1) := by decide +kernel
theorem dX0_begin_14 : decode cX0_begin 14 = .ok (.getfield 15, 3) := by decide +kernel
theorem dX0_begin_17 : decode cX0_begin 17 = .ok (.iload_n 1, 1) := by decide +kernel
theorem dX0_begin_18 : decode cX0_begin 18 = .ok (.iastore, 1) := by decide +kernel
theorem dX0_begin_19 : decode cX0_begin 19 = .ok (.aload_n 0, 1) := by decide +kernel
theorem dX0_begin_20 : decode cX0_begin 20 = .ok (.dup, 1) := by decide +kernel
theorem dX0_begin_21 : decode cX0_begin 21 = .ok (.getfield 15, 3) := by decide +kernel
theorem dX0_begin_24 : decode cX0_begin 24 = .ok (.iconst 1, 1) := by decide +kernel
theorem dX0_begin_25 : decode cX0_begin 25 = .ok (.iadd, 1) := by decide +kernel
theorem dX0_begin_26 : decode cX0_begin 26 = .ok (.putfield 15, 3) := by decide +kernel
theorem dX0_begin_29 : decode cX0_begin 29 = .ok (.return_, 1) := by decide +kernel
theorem dX0_sizeOf_0 : decode cX0_sizeOf 0 = .ok (.iload_n 2, 1) := by decide +kernel
theorem dX0_sizeOf_1 : decode cX0_sizeOf 1 = .ok (.tableswitch 59 1 5 #[35, 41, 47, 59, 53], 35) := by decide +kernel
theorem dX0_sizeOf_36 : decode cX0_sizeOf 36 = .ok (.aload_n 0, 1) := by decide +kernel
theorem dX0_sizeOf_37 : decode cX0_sizeOf 37 = .ok (.aload_n 1, 1) := by decide +kernel
theorem dX0_sizeOf_38 : decode cX0_sizeOf 38 = .ok (.invokevirtual 19, 3) := by decide +kernel
theorem dX0_sizeOf_41 : decode cX0_sizeOf 41 = .ok (.ireturn, 1) := by decide +kernel
theorem dX0_sizeOf_42 : decode cX0_sizeOf 42 = .ok (.aload_n 0, 1) := by decide +kernel
theorem dX0_sizeOf_43 : decode cX0_sizeOf 43 = .ok (.aload_n 1, 1) := by decide +kernel
theorem dX0_sizeOf_44 : decode cX0_sizeOf 44 = .ok (.invokevirtual 23, 3) := by decide +kernel
theorem dX0_sizeOf_47 : decode cX0_sizeOf 47 = .ok (.ireturn, 1) := by decide +kernel
theorem dX0_sizeOf_48 : decode cX0_sizeOf 48 = .ok (.aload_n 0, 1) := by decide +kernel
theorem dX0_sizeOf_49 : decode cX0_sizeOf 49 = .ok (.aload_n 1, 1) := by decide +kernel
theorem dX0_sizeOf_50 : decode cX0_sizeOf 50 = .ok (.invokevirtual 26, 3) := by decide +kernel
theorem dX0_sizeOf_53 : decode cX0_sizeOf 53 = .ok (.ireturn, 1) := by decide +kernel
theorem dX0_sizeOf_54 : decode cX0_sizeOf 54 = .ok (.aload_n 0, 1) := by decide +kernel
theorem dX0_sizeOf_55 : decode cX0_sizeOf 55 = .ok (.aload_n 1, 1) := by decide +kernel
theorem dX0_sizeOf_56 : decode cX0_sizeOf 56 = .ok (.invokevirtual 29, 3) := by decide +kernel
theorem dX0_sizeOf_59 : decode cX0_sizeOf 59 = .ok (.ireturn, 1) := by decide +kernel
theorem dX0_sizeOf_60 : decode cX0_sizeOf 60 = .ok (.aload_n 0, 1) := by decide +kernel
theorem dX0_sizeOf_61 : decode cX0_sizeOf 61 = .ok (.aload_n 1, 1) := by decide +kernel
theorem dX0_sizeOf_62 : decode cX0_sizeOf 62 = .ok (.invokevirtual 32, 3) := by decide +kernel
theorem dX0_sizeOf_65 : decode cX0_sizeOf 65 = .ok (.ireturn, 1) := by decide +kernel
theorem dX0_markOf_0 : decode cX0_markOf 0 = .ok (.iload_n 2, 1) := by decide +kernel
theorem dX0_markOf_1 : decode cX0_markOf 1 = .ok (.tableswitch 45 2 4 #[27, 33, 39], 27) := by decide +kernel
theorem dX0_markOf_28 : decode cX0_markOf 28 = .ok (.aload_n 0, 1) := by decide +kernel
theorem dX0_markOf_29 : decode cX0_markOf 29 = .ok (.aload_n 1, 1) := by decide +kernel
theorem dX0_markOf_30 : decode cX0_markOf 30 = .ok (.invokevirtual 35, 3) := by decide +kernel
theorem dX0_markOf_33 : decode cX0_markOf 33 = .ok (.ireturn, 1) := by decide +kernel
theorem dX0_markOf_34 : decode cX0_markOf 34 = .ok (.aload_n 0, 1) := by decide +kernel
theorem dX0_markOf_35 : decode cX0_markOf 35 = .ok (.aload_n 1, 1) := by decide +kernel
theorem dX0_markOf_36 : decode cX0_markOf 36 = .ok (.invokevirtual 38, 3) := by decide +kernel
theorem dX0_markOf_39 : decode cX0_markOf 39 = .ok (.ireturn, 1) := by decide +kernel
theorem dX0_markOf_40 : decode cX0_markOf 40 = .ok (.aload_n 0, 1) := by decide +kernel
theorem dX0_markOf_41 : decode cX0_markOf 41 = .ok (.aload_n 1, 1) := by decide +kernel
theorem dX0_markOf_42 : decode cX0_markOf 42 = .ok (.invokevirtual 41, 3) := by decide +kernel
theorem dX0_markOf_45 : decode cX0_markOf 45 = .ok (.ireturn, 1) := by decide +kernel
theorem dX0_markOf_46 : decode cX0_markOf 46 = .ok (.aload_n 0, 1) := by decide +kernel
theorem dX0_markOf_47 : decode cX0_markOf 47 = .ok (.aload_n 1, 1) := by decide +kernel
theorem dX0_markOf_48 : decode cX0_markOf 48 = .ok (.invokevirtual 44, 3) := by decide +kernel
theorem dX0_markOf_51 : decode cX0_markOf 51 = .ok (.ireturn, 1) := by decide +kernel
theorem dX0_lentSize_0 : decode cX0_lentSize 0 = .ok (.aload_n 0, 1) := by decide +kernel
theorem dX0_lentSize_1 : decode cX0_lentSize 1 = .ok (.bipush 10, 2) := by decide +kernel
theorem dX0_lentSize_3 : decode cX0_lentSize 3 = .ok (.invokevirtual 47, 3) := by decide +kernel
theorem dX0_lentSize_6 : decode cX0_lentSize 6 = .ok (.aload_n 1, 1) := by decide +kernel
theorem dX0_lentSize_7 : decode cX0_lentSize 7 = .ok (.getfield 51, 3) := by decide +kernel
theorem dX0_lentSize_10 : decode cX0_lentSize 10 = .ok (.aload_n 1, 1) := by decide +kernel
theorem dX0_lentSize_11 : decode cX0_lentSize 11 = .ok (.getfield 56, 3) := by decide +kernel
theorem dX0_lentSize_14 : decode cX0_lentSize 14 = .ok (.isub, 1) := by decide +kernel
theorem dX0_lentSize_15 : decode cX0_lentSize 15 = .ok (.iconst 1, 1) := by decide +kernel
theorem dX0_lentSize_16 : decode cX0_lentSize 16 = .ok (.iadd, 1) := by decide +kernel
theorem dX0_lentSize_17 : decode cX0_lentSize 17 = .ok (.ireturn, 1) := by decide +kernel
theorem dX0_stampSize_0 : decode cX0_stampSize 0 = .ok (.aload_n 0, 1) := by decide +kernel
theorem dX0_stampSize_1 : decode cX0_stampSize 1 = .ok (.bipush 11, 2) := by decide +kernel
theorem dX0_stampSize_3 : decode cX0_stampSize 3 = .ok (.invokevirtual 47, 3) := by decide +kernel
theorem dX0_stampSize_6 : decode cX0_stampSize 6 = .ok (.aload_n 0, 1) := by decide +kernel
theorem dX0_stampSize_7 : decode cX0_stampSize 7 = .ok (.aload_n 1, 1) := by decide +kernel
theorem dX0_stampSize_8 : decode cX0_stampSize 8 = .ok (.invokevirtual 32, 3) := by decide +kernel
theorem dX0_stampSize_11 : decode cX0_stampSize 11 = .ok (.aload_n 1, 1) := by decide +kernel
theorem dX0_stampSize_12 : decode cX0_stampSize 12 = .ok (.getfield 59, 3) := by decide +kernel
theorem dX0_stampSize_15 : decode cX0_stampSize 15 = .ok (.iconst 0, 1) := by decide +kernel
theorem dX0_stampSize_16 : decode cX0_stampSize 16 = .ok (.iaload, 1) := by decide +kernel
theorem dX0_stampSize_17 : decode cX0_stampSize 17 = .ok (.iadd, 1) := by decide +kernel
theorem dX0_stampSize_18 : decode cX0_stampSize 18 = .ok (.ireturn, 1) := by decide +kernel
theorem dX0_shortSize_0 : decode cX0_shortSize 0 = .ok (.aload_n 0, 1) := by decide +kernel
theorem dX0_shortSize_1 : decode cX0_shortSize 1 = .ok (.bipush 12, 2) := by decide +kernel
theorem dX0_shortSize_3 : decode cX0_shortSize 3 = .ok (.invokevirtual 47, 3) := by decide +kernel
theorem dX0_shortSize_6 : decode cX0_shortSize 6 = .ok (.iconst 2, 1) := by decide +kernel
theorem dX0_shortSize_7 : decode cX0_shortSize 7 = .ok (.aload_n 0, 1) := by decide +kernel
theorem dX0_shortSize_8 : decode cX0_shortSize 8 = .ok (.aload_n 1, 1) := by decide +kernel
theorem dX0_shortSize_9 : decode cX0_shortSize 9 = .ok (.invokevirtual 19, 3) := by decide +kernel
theorem dX0_shortSize_12 : decode cX0_shortSize 12 = .ok (.imul, 1) := by decide +kernel
theorem dX0_shortSize_13 : decode cX0_shortSize 13 = .ok (.ireturn, 1) := by decide +kernel
theorem dX0_gradeSize_0 : decode cX0_gradeSize 0 = .ok (.aload_n 0, 1) := by decide +kernel
theorem dX0_gradeSize_1 : decode cX0_gradeSize 1 = .ok (.bipush 13, 2) := by decide +kernel
theorem dX0_gradeSize_3 : decode cX0_gradeSize 3 = .ok (.invokevirtual 47, 3) := by decide +kernel
theorem dX0_gradeSize_6 : decode cX0_gradeSize 6 = .ok (.aload_n 0, 1) := by decide +kernel
theorem dX0_gradeSize_7 : decode cX0_gradeSize 7 = .ok (.aload_n 1, 1) := by decide +kernel
theorem dX0_gradeSize_8 : decode cX0_gradeSize 8 = .ok (.invokevirtual 32, 3) := by decide +kernel
theorem dX0_gradeSize_11 : decode cX0_gradeSize 11 = .ok (.aload_n 0, 1) := by decide +kernel
theorem dX0_gradeSize_12 : decode cX0_gradeSize 12 = .ok (.aload_n 1, 1) := by decide +kernel
theorem dX0_gradeSize_13 : decode cX0_gradeSize 13 = .ok (.invokevirtual 38, 3) := by decide +kernel
theorem dX0_gradeSize_16 : decode cX0_gradeSize 16 = .ok (.iadd, 1) := by decide +kernel
theorem dX0_gradeSize_17 : decode cX0_gradeSize 17 = .ok (.ireturn, 1) := by decide +kernel
theorem dX0_goneSize_0 : decode cX0_goneSize 0 = .ok (.aload_n 0, 1) := by decide +kernel
theorem dX0_goneSize_1 : decode cX0_goneSize 1 = .ok (.bipush 14, 2) := by decide +kernel
theorem dX0_goneSize_3 : decode cX0_goneSize 3 = .ok (.invokevirtual 47, 3) := by decide +kernel
theorem dX0_goneSize_6 : decode cX0_goneSize 6 = .ok (.aload_n 0, 1) := by decide +kernel
theorem dX0_goneSize_7 : decode cX0_goneSize 7 = .ok (.aload_n 1, 1) := by decide +kernel
theorem dX0_goneSize_8 : decode cX0_goneSize 8 = .ok (.invokevirtual 32, 3) := by decide +kernel
theorem dX0_goneSize_11 : decode cX0_goneSize 11 = .ok (.ineg, 1) := by decide +kernel
theorem dX0_goneSize_12 : decode cX0_goneSize 12 = .ok (.ireturn, 1) := by decide +kernel
theorem dX0_lentMark_0 : decode cX0_lentMark 0 = .ok (.aload_n 0, 1) := by decide +kernel
theorem dX0_lentMark_1 : decode cX0_lentMark 1 = .ok (.bipush 20, 2) := by decide +kernel
theorem dX0_lentMark_3 : decode cX0_lentMark 3 = .ok (.invokevirtual 47, 3) := by decide +kernel
theorem dX0_lentMark_6 : decode cX0_lentMark 6 = .ok (.aload_n 1, 1) := by decide +kernel
theorem dX0_lentMark_7 : decode cX0_lentMark 7 = .ok (.getfield 62, 3) := by decide +kernel
theorem dX0_lentMark_10 : decode cX0_lentMark 10 = .ok (.ireturn, 1) := by decide +kernel
theorem dX0_shortMark_0 : decode cX0_shortMark 0 = .ok (.aload_n 0, 1) := by decide +kernel
theorem dX0_shortMark_1 : decode cX0_shortMark 1 = .ok (.bipush 21, 2) := by decide +kernel
theorem dX0_shortMark_3 : decode cX0_shortMark 3 = .ok (.invokevirtual 47, 3) := by decide +kernel
theorem dX0_shortMark_6 : decode cX0_shortMark 6 = .ok (.aload_n 0, 1) := by decide +kernel
theorem dX0_shortMark_7 : decode cX0_shortMark 7 = .ok (.aload_n 1, 1) := by decide +kernel
theorem dX0_shortMark_8 : decode cX0_shortMark 8 = .ok (.invokevirtual 44, 3) := by decide +kernel
theorem dX0_shortMark_11 : decode cX0_shortMark 11 = .ok (.aload_n 0, 1) := by decide +kernel
theorem dX0_shortMark_12 : decode cX0_shortMark 12 = .ok (.aload_n 1, 1) := by decide +kernel
theorem dX0_shortMark_13 : decode cX0_shortMark 13 = .ok (.invokevirtual 23, 3) := by decide +kernel
theorem dX0_shortMark_16 : decode cX0_shortMark 16 = .ok (.iadd, 1) := by decide +kernel
theorem dX0_shortMark_17 : decode cX0_shortMark 17 = .ok (.ireturn, 1) := by decide +kernel
theorem dX0_gradeMark_0 : decode cX0_gradeMark 0 = .ok (.aload_n 0, 1) := by decide +kernel
theorem dX0_gradeMark_1 : decode cX0_gradeMark 1 = .ok (.bipush 22, 2) := by decide +kernel
theorem dX0_gradeMark_3 : decode cX0_gradeMark 3 = .ok (.invokevirtual 47, 3) := by decide +kernel
theorem dX0_gradeMark_6 : decode cX0_gradeMark 6 = .ok (.aload_n 1, 1) := by decide +kernel
theorem dX0_gradeMark_7 : decode cX0_gradeMark 7 = .ok (.getfield 59, 3) := by decide +kernel
theorem dX0_gradeMark_10 : decode cX0_gradeMark 10 = .ok (.astore_n 2, 1) := by decide +kernel
theorem dX0_gradeMark_11 : decode cX0_gradeMark 11 = .ok (.aload_n 2, 1) := by decide +kernel
theorem dX0_gradeMark_12 : decode cX0_gradeMark 12 = .ok (.iconst 0, 1) := by decide +kernel
theorem dX0_gradeMark_13 : decode cX0_gradeMark 13 = .ok (.iaload, 1) := by decide +kernel
theorem dX0_gradeMark_14 : decode cX0_gradeMark 14 = .ok (.aload_n 2, 1) := by decide +kernel
theorem dX0_gradeMark_15 : decode cX0_gradeMark 15 = .ok (.iconst 1, 1) := by decide +kernel
theorem dX0_gradeMark_16 : decode cX0_gradeMark 16 = .ok (.iaload, 1) := by decide +kernel
theorem dX0_gradeMark_17 : decode cX0_gradeMark 17 = .ok (.invokestatic 65, 3) := by decide +kernel
theorem dX0_gradeMark_20 : decode cX0_gradeMark 20 = .ok (.aload_n 2, 1) := by decide +kernel
theorem dX0_gradeMark_21 : decode cX0_gradeMark 21 = .ok (.iconst 2, 1) := by decide +kernel
theorem dX0_gradeMark_22 : decode cX0_gradeMark 22 = .ok (.iaload, 1) := by decide +kernel
theorem dX0_gradeMark_23 : decode cX0_gradeMark 23 = .ok (.aload_n 2, 1) := by decide +kernel
theorem dX0_gradeMark_24 : decode cX0_gradeMark 24 = .ok (.iconst 3, 1) := by decide +kernel
theorem dX0_gradeMark_25 : decode cX0_gradeMark 25 = .ok (.iaload, 1) := by decide +kernel
theorem dX0_gradeMark_26 : decode cX0_gradeMark 26 = .ok (.invokestatic 65, 3) := by decide +kernel
theorem dX0_gradeMark_29 : decode cX0_gradeMark 29 = .ok (.invokestatic 65, 3) := by decide +kernel
theorem dX0_gradeMark_32 : decode cX0_gradeMark 32 = .ok (.istore_n 3, 1) := by decide +kernel
theorem dX0_gradeMark_33 : decode cX0_gradeMark 33 = .ok (.aload_n 0, 1) := by decide +kernel
theorem dX0_gradeMark_34 : decode cX0_gradeMark 34 = .ok (.aload_n 1, 1) := by decide +kernel
theorem dX0_gradeMark_35 : decode cX0_gradeMark 35 = .ok (.invokevirtual 44, 3) := by decide +kernel
theorem dX0_gradeMark_38 : decode cX0_gradeMark 38 = .ok (.iload_n 3, 1) := by decide +kernel
theorem dX0_gradeMark_39 : decode cX0_gradeMark 39 = .ok (.iadd, 1) := by decide +kernel
theorem dX0_gradeMark_40 : decode cX0_gradeMark 40 = .ok (.ireturn, 1) := by decide +kernel
theorem dX0_lentOnesMark_0 : decode cX0_lentOnesMark 0 = .ok (.aload_n 0, 1) := by decide +kernel
theorem dX0_lentOnesMark_1 : decode cX0_lentOnesMark 1 = .ok (.bipush 23, 2) := by decide +kernel
theorem dX0_lentOnesMark_3 : decode cX0_lentOnesMark 3 = .ok (.invokevirtual 47, 3) := by decide +kernel
theorem dX0_lentOnesMark_6 : decode cX0_lentOnesMark 6 = .ok (.aload_n 0, 1) := by decide +kernel
theorem dX0_lentOnesMark_7 : decode cX0_lentOnesMark 7 = .ok (.aload_n 1, 1) := by decide +kernel
theorem dX0_lentOnesMark_8 : decode cX0_lentOnesMark 8 = .ok (.invokevirtual 44, 3) := by decide +kernel
theorem dX0_lentOnesMark_11 : decode cX0_lentOnesMark 11 = .ok (.sipush 1000, 3) := by decide +kernel
theorem dX0_lentOnesMark_14 : decode cX0_lentOnesMark 14 = .ok (.iadd, 1) := by decide +kernel
theorem dX0_lentOnesMark_15 : decode cX0_lentOnesMark 15 = .ok (.ireturn, 1) := by decide +kernel
theorem dX1_init_0 : decode cX1_init 0 = .ok (.aload_n 0, 1) := by decide +kernel
theorem dX1_init_1 : decode cX1_init 1 = .ok (.invokespecial 3, 3) := by decide +kernel
theorem dX1_init_4 : decode cX1_init 4 = .ok (.aload_n 0, 1) := by decide +kernel
theorem dX1_init_5 : decode cX1_init 5 = .ok (.sipush 256, 3) := by decide +kernel
theorem dX1_init_8 : decode cX1_init 8 = .ok (.newarray .int, 2) := by decide +kernel
theorem dX1_init_10 : decode cX1_init 10 = .ok (.putfield 11, 3) := by decide +kernel
theorem dX1_init_13 : decode cX1_init 13 = .ok (.return_, 1) := by decide +kernel
theorem dX1_begin_0 : decode cX1_begin 0 = .ok (.aload_n 0, 1) := by decide +kernel
theorem dX1_begin_1 : decode cX1_begin 1 = .ok (.iconst 1, 1) := by decide +kernel
theorem dX1_begin_2 : decode cX1_begin 2 = .ok (.iload_n 1, 1) := by decide +kernel
theorem dX1_begin_3 : decode cX1_begin 3 = .ok (.bipush 8, 2) := by decide +kernel
theorem dX1_begin_5 : decode cX1_begin 5 = .ok (.invokestatic 17, 3) := by decide +kernel
theorem dX1_begin_8 : decode cX1_begin 8 = .ok (.ishl, 1) := by decide +kernel
theorem dX1_begin_9 : decode cX1_begin 9 = .ok (.putfield 23, 3) := by decide +kernel
theorem dX1_begin_12 : decode cX1_begin 12 = .ok (.aload_n 0, 1) := by decide +kernel
theorem dX1_begin_13 : decode cX1_begin 13 = .ok (.getfield 11, 3) := by decide +kernel
theorem dX1_begin_16 : decode cX1_begin 16 = .ok (.ldc 27, 2) := by decide +kernel
theorem dX1_begin_18 : decode cX1_begin 18 = .ok (.invokestatic 28, 3) := by decide +kernel
theorem dX1_begin_21 : decode cX1_begin 21 = .ok (.aload_n 0, 1) := by decide +kernel
theorem dX1_begin_22 : decode cX1_begin 22 = .ok (.getfield 11, 3) := by decide +kernel
theorem dX1_begin_25 : decode cX1_begin 25 = .ok (.iconst 0, 1) := by decide +kernel
theorem dX1_begin_26 : decode cX1_begin 26 = .ok (.iconst 0, 1) := by decide +kernel
theorem dX1_begin_27 : decode cX1_begin 27 = .ok (.iastore, 1) := by decide +kernel
theorem dX1_begin_28 : decode cX1_begin 28 = .ok (.return_, 1) := by decide +kernel
theorem dX1_offer_0 : decode cX1_offer 0 = .ok (.iconst 1, 1) := by decide +kernel
theorem dX1_offer_1 : decode cX1_offer 1 = .ok (.iload_n 2, 1) := by decide +kernel
theorem dX1_offer_2 : decode cX1_offer 2 = .ok (.invokestatic 34, 3) := by decide +kernel
theorem dX1_offer_5 : decode cX1_offer 5 = .ok (.iadd, 1) := by decide +kernel
theorem dX1_offer_6 : decode cX1_offer 6 = .ok (.sipush 4096, 3) := by decide +kernel
theorem dX1_offer_9 : decode cX1_offer 9 = .ok (.imul, 1) := by decide +kernel
theorem dX1_offer_10 : decode cX1_offer 10 = .ok (.iconst 1, 1) := by decide +kernel
theorem dX1_offer_11 : decode cX1_offer 11 = .ok (.iload_n 1, 1) := by decide +kernel
theorem dX1_offer_12 : decode cX1_offer 12 = .ok (.ishl, 1) := by decide +kernel
theorem dX1_offer_13 : decode cX1_offer 13 = .ok (.iadd, 1) := by decide +kernel
theorem dX1_offer_14 : decode cX1_offer 14 = .ok (.istore_n 3, 1) := by decide +kernel
theorem dX1_offer_15 : decode cX1_offer 15 = .ok (.iconst 0, 1) := by decide +kernel
theorem dX1_offer_16 : decode cX1_offer 16 = .ok (.istore 4, 2) := by decide +kernel
theorem dX1_offer_18 : decode cX1_offer 18 = .ok (.iload 4, 2) := by decide +kernel
theorem dX1_offer_20 : decode cX1_offer 20 = .ok (.aload_n 0, 1) := by decide +kernel
theorem dX1_offer_21 : decode cX1_offer 21 = .ok (.getfield 23, 3) := by decide +kernel
theorem dX1_offer_24 : decode cX1_offer 24 = .ok (.if_icmp .ge 78, 3) := by decide +kernel
theorem dX1_offer_27 : decode cX1_offer 27 = .ok (.iload 4, 2) := by decide +kernel
theorem dX1_offer_29 : decode cX1_offer 29 = .ok (.iload_n 2, 1) := by decide +kernel
theorem dX1_offer_30 : decode cX1_offer 30 = .ok (.ior, 1) := by decide +kernel
theorem dX1_offer_31 : decode cX1_offer 31 = .ok (.aload_n 0, 1) := by decide +kernel
theorem dX1_offer_32 : decode cX1_offer 32 = .ok (.getfield 23, 3) := by decide +kernel
theorem dX1_offer_35 : decode cX1_offer 35 = .ok (.iconst 1, 1) := by decide +kernel
theorem dX1_offer_36 : decode cX1_offer 36 = .ok (.isub, 1) := by decide +kernel
theorem dX1_offer_37 : decode cX1_offer 37 = .ok (.iand, 1) := by decide +kernel
theorem dX1_offer_38 : decode cX1_offer 38 = .ok (.istore 5, 2) := by decide +kernel
theorem dX1_offer_40 : decode cX1_offer 40 = .ok (.aload_n 0, 1) := by decide +kernel
theorem dX1_offer_41 : decode cX1_offer 41 = .ok (.getfield 11, 3) := by decide +kernel
theorem dX1_offer_44 : decode cX1_offer 44 = .ok (.iload 4, 2) := by decide +kernel
theorem dX1_offer_46 : decode cX1_offer 46 = .ok (.iaload, 1) := by decide +kernel
theorem dX1_offer_47 : decode cX1_offer 47 = .ok (.iload_n 3, 1) := by decide +kernel
theorem dX1_offer_48 : decode cX1_offer 48 = .ok (.iadd, 1) := by decide +kernel
theorem dX1_offer_49 : decode cX1_offer 49 = .ok (.istore 6, 2) := by decide +kernel
theorem dX1_offer_51 : decode cX1_offer 51 = .ok (.aload_n 0, 1) := by decide +kernel
theorem dX1_offer_52 : decode cX1_offer 52 = .ok (.getfield 11, 3) := by decide +kernel
theorem dX1_offer_55 : decode cX1_offer 55 = .ok (.iload 4, 2) := by decide +kernel
theorem dX1_offer_57 : decode cX1_offer 57 = .ok (.iaload, 1) := by decide +kernel
theorem dX1_offer_58 : decode cX1_offer 58 = .ok (.ldc 27, 2) := by decide +kernel
theorem dX1_offer_60 : decode cX1_offer 60 = .ok (.if_icmp .eq 36, 3) := by decide +kernel
theorem dX1_offer_63 : decode cX1_offer 63 = .ok (.aload_n 0, 1) := by decide +kernel
theorem dX1_offer_64 : decode cX1_offer 64 = .ok (.getfield 11, 3) := by decide +kernel
theorem dX1_offer_67 : decode cX1_offer 67 = .ok (.iload 5, 2) := by decide +kernel
theorem dX1_offer_69 : decode cX1_offer 69 = .ok (.iaload, 1) := by decide +kernel
theorem dX1_offer_70 : decode cX1_offer 70 = .ok (.ldc 27, 2) := by decide +kernel
theorem dX1_offer_72 : decode cX1_offer 72 = .ok (.if_icmp .eq 15, 3) := by decide +kernel
theorem dX1_offer_75 : decode cX1_offer 75 = .ok (.iload 6, 2) := by decide +kernel
theorem dX1_offer_77 : decode cX1_offer 77 = .ok (.aload_n 0, 1) := by decide +kernel
theorem dX1_offer_78 : decode cX1_offer 78 = .ok (.getfield 11, 3) := by decide +kernel
theorem dX1_offer_81 : decode cX1_offer 81 = .ok (.iload 5, 2) := by decide +kernel
theorem dX1_offer_83 : decode cX1_offer 83 = .ok (.iaload, 1) := by decide +kernel
theorem dX1_offer_84 : decode cX1_offer 84 = .ok (.if_icmp .ge 12, 3) := by decide +kernel
theorem dX1_offer_87 : decode cX1_offer 87 = .ok (.aload_n 0, 1) := by decide +kernel
theorem dX1_offer_88 : decode cX1_offer 88 = .ok (.getfield 11, 3) := by decide +kernel
theorem dX1_offer_91 : decode cX1_offer 91 = .ok (.iload 5, 2) := by decide +kernel
theorem dX1_offer_93 : decode cX1_offer 93 = .ok (.iload 6, 2) := by decide +kernel
theorem dX1_offer_95 : decode cX1_offer 95 = .ok (.iastore, 1) := by decide +kernel
theorem dX1_offer_96 : decode cX1_offer 96 = .ok (.iinc 4 1, 3) := by decide +kernel
theorem dX1_offer_99 : decode cX1_offer 99 = .ok (.goto (-81), 3) := by decide +kernel
theorem dX1_offer_102 : decode cX1_offer 102 = .ok (.return_, 1) := by decide +kernel
theorem dX1_best_0 : decode cX1_best 0 = .ok (.aload_n 0, 1) := by decide +kernel
theorem dX1_best_1 : decode cX1_best 1 = .ok (.getfield 11, 3) := by decide +kernel
theorem dX1_best_4 : decode cX1_best 4 = .ok (.aload_n 0, 1) := by decide +kernel
theorem dX1_best_5 : decode cX1_best 5 = .ok (.getfield 23, 3) := by decide +kernel
theorem dX1_best_8 : decode cX1_best 8 = .ok (.iconst 1, 1) := by decide +kernel
theorem dX1_best_9 : decode cX1_best 9 = .ok (.isub, 1) := by decide +kernel
theorem dX1_best_10 : decode cX1_best 10 = .ok (.iaload, 1) := by decide +kernel
theorem dX1_best_11 : decode cX1_best 11 = .ok (.ireturn, 1) := by decide +kernel
theorem dX2_init_0 : decode cX2_init 0 = .ok (.aload_n 0, 1) := by decide +kernel
theorem dX2_init_1 : decode cX2_init 1 = .ok (.invokespecial 1, 3) := by decide +kernel
theorem dX2_init_4 : decode cX2_init 4 = .ok (.aload_n 0, 1) := by decide +kernel
theorem dX2_init_5 : decode cX2_init 5 = .ok (.bipush 6, 2) := by decide +kernel
theorem dX2_init_7 : decode cX2_init 7 = .ok (.newarray .int, 2) := by decide +kernel
theorem dX2_init_9 : decode cX2_init 9 = .ok (.putfield 9, 3) := by decide +kernel
theorem dX2_init_12 : decode cX2_init 12 = .ok (.aload_n 0, 1) := by decide +kernel
theorem dX2_init_13 : decode cX2_init 13 = .ok (.bipush 6, 2) := by decide +kernel
theorem dX2_init_15 : decode cX2_init 15 = .ok (.newarray .int, 2) := by decide +kernel
theorem dX2_init_17 : decode cX2_init 17 = .ok (.putfield 13, 3) := by decide +kernel
theorem dX2_init_20 : decode cX2_init 20 = .ok (.return_, 1) := by decide +kernel
theorem dX2_partOf_0 : decode cX2_partOf 0 = .ok (.iload_n 0, 1) := by decide +kernel
theorem dX2_partOf_1 : decode cX2_partOf 1 = .ok (.istore_n 3, 1) := by decide +kernel
theorem dX2_partOf_2 : decode cX2_partOf 2 = .ok (.iconst 1, 1) := by decide +kernel
theorem dX2_partOf_3 : decode cX2_partOf 3 = .ok (.istore 4, 2) := by decide +kernel
theorem dX2_partOf_5 : decode cX2_partOf 5 = .ok (.iconst 1, 1) := by decide +kernel
theorem dX2_partOf_6 : decode cX2_partOf 6 = .ok (.istore 5, 2) := by decide +kernel
theorem dX2_partOf_8 : decode cX2_partOf 8 = .ok (.iload 5, 2) := by decide +kernel
theorem dX2_partOf_10 : decode cX2_partOf 10 = .ok (.iload_n 1, 1) := by decide +kernel
theorem dX2_partOf_11 : decode cX2_partOf 11 = .ok (.if_icmp .ge 47, 3) := by decide +kernel
theorem dX2_partOf_14 : decode cX2_partOf 14 = .ok (.iload 4, 2) := by decide +kernel
theorem dX2_partOf_16 : decode cX2_partOf 16 = .ok (.iload_n 2, 1) := by decide +kernel
theorem dX2_partOf_17 : decode cX2_partOf 17 = .ok (.imul, 1) := by decide +kernel
theorem dX2_partOf_18 : decode cX2_partOf 18 = .ok (.sipush 257, 3) := by decide +kernel
theorem dX2_partOf_21 : decode cX2_partOf 21 = .ok (.irem, 1) := by decide +kernel
theorem dX2_partOf_22 : decode cX2_partOf 22 = .ok (.istore 4, 2) := by decide +kernel
theorem dX2_partOf_24 : decode cX2_partOf 24 = .ok (.iload_n 3, 1) := by decide +kernel
theorem dX2_partOf_25 : decode cX2_partOf 25 = .ok (.iload_n 0, 1) := by decide +kernel
theorem dX2_partOf_26 : decode cX2_partOf 26 = .ok (.iload 5, 2) := by decide +kernel
theorem dX2_partOf_28 : decode cX2_partOf 28 = .ok (.iconst 3, 1) := by decide +kernel
theorem dX2_partOf_29 : decode cX2_partOf 29 = .ok (.iadd, 1) := by decide +kernel
theorem dX2_partOf_30 : decode cX2_partOf 30 = .ok (.imul, 1) := by decide +kernel
theorem dX2_partOf_31 : decode cX2_partOf 31 = .ok (.bipush 11, 2) := by decide +kernel
theorem dX2_partOf_33 : decode cX2_partOf 33 = .ok (.iload 5, 2) := by decide +kernel
theorem dX2_partOf_35 : decode cX2_partOf 35 = .ok (.imul, 1) := by decide +kernel
theorem dX2_partOf_36 : decode cX2_partOf 36 = .ok (.iadd, 1) := by decide +kernel
theorem dX2_partOf_37 : decode cX2_partOf 37 = .ok (.iconst 5, 1) := by decide +kernel
theorem dX2_partOf_38 : decode cX2_partOf 38 = .ok (.iadd, 1) := by decide +kernel
theorem dX2_partOf_39 : decode cX2_partOf 39 = .ok (.sipush 257, 3) := by decide +kernel
theorem dX2_partOf_42 : decode cX2_partOf 42 = .ok (.irem, 1) := by decide +kernel
theorem dX2_partOf_43 : decode cX2_partOf 43 = .ok (.iload 4, 2) := by decide +kernel
theorem dX2_partOf_45 : decode cX2_partOf 45 = .ok (.imul, 1) := by decide +kernel
theorem dX2_partOf_46 : decode cX2_partOf 46 = .ok (.iadd, 1) := by decide +kernel
theorem dX2_partOf_47 : decode cX2_partOf 47 = .ok (.sipush 257, 3) := by decide +kernel
theorem dX2_partOf_50 : decode cX2_partOf 50 = .ok (.irem, 1) := by decide +kernel
theorem dX2_partOf_51 : decode cX2_partOf 51 = .ok (.istore_n 3, 1) := by decide +kernel
theorem dX2_partOf_52 : decode cX2_partOf 52 = .ok (.iinc 5 1, 3) := by decide +kernel
theorem dX2_partOf_55 : decode cX2_partOf 55 = .ok (.goto (-47), 3) := by decide +kernel
theorem dX2_partOf_58 : decode cX2_partOf 58 = .ok (.iload_n 3, 1) := by decide +kernel
theorem dX2_partOf_59 : decode cX2_partOf 59 = .ok (.ireturn, 1) := by decide +kernel
theorem dX2_take_0 : decode cX2_take 0 = .ok (.iconst 0, 1) := by decide +kernel
theorem dX2_take_1 : decode cX2_take 1 = .ok (.istore 4, 2) := by decide +kernel
theorem dX2_take_3 : decode cX2_take 3 = .ok (.iconst 0, 1) := by decide +kernel
theorem dX2_take_4 : decode cX2_take 4 = .ok (.istore 5, 2) := by decide +kernel
theorem dX2_take_6 : decode cX2_take 6 = .ok (.iload 5, 2) := by decide +kernel
theorem dX2_take_8 : decode cX2_take 8 = .ok (.iload_n 3, 1) := by decide +kernel
theorem dX2_take_9 : decode cX2_take 9 = .ok (.if_icmp .ge 93, 3) := by decide +kernel
theorem dX2_take_12 : decode cX2_take 12 = .ok (.aload_n 1, 1) := by decide +kernel
theorem dX2_take_13 : decode cX2_take 13 = .ok (.iload_n 2, 1) := by decide +kernel
theorem dX2_take_14 : decode cX2_take 14 = .ok (.iconst 2, 1) := by decide +kernel
theorem dX2_take_15 : decode cX2_take 15 = .ok (.iload 5, 2) := by decide +kernel
theorem dX2_take_17 : decode cX2_take 17 = .ok (.imul, 1) := by decide +kernel
theorem dX2_take_18 : decode cX2_take 18 = .ok (.iadd, 1) := by decide +kernel
theorem dX2_take_19 : decode cX2_take 19 = .ok (.iaload, 1) := by decide +kernel
theorem dX2_take_20 : decode cX2_take 20 = .ok (.istore 6, 2) := by decide +kernel
theorem dX2_take_22 : decode cX2_take 22 = .ok (.aload_n 1, 1) := by decide +kernel
theorem dX2_take_23 : decode cX2_take 23 = .ok (.iload_n 2, 1) := by decide +kernel
theorem dX2_take_24 : decode cX2_take 24 = .ok (.iconst 2, 1) := by decide +kernel
theorem dX2_take_25 : decode cX2_take 25 = .ok (.iload 5, 2) := by decide +kernel
theorem dX2_take_27 : decode cX2_take 27 = .ok (.imul, 1) := by decide +kernel
theorem dX2_take_28 : decode cX2_take 28 = .ok (.iadd, 1) := by decide +kernel
theorem dX2_take_29 : decode cX2_take 29 = .ok (.iconst 1, 1) := by decide +kernel
theorem dX2_take_30 : decode cX2_take 30 = .ok (.iadd, 1) := by decide +kernel
theorem dX2_take_31 : decode cX2_take 31 = .ok (.iaload, 1) := by decide +kernel
theorem dX2_take_32 : decode cX2_take 32 = .ok (.istore 7, 2) := by decide +kernel
theorem dX2_take_34 : decode cX2_take 34 = .ok (.iload 6, 2) := by decide +kernel
theorem dX2_take_36 : decode cX2_take 36 = .ok (.iconst 1, 1) := by decide +kernel
theorem dX2_take_37 : decode cX2_take 37 = .ok (.bipush 6, 2) := by decide +kernel
theorem dX2_take_39 : decode cX2_take 39 = .ok (.invokestatic 16, 3) := by decide +kernel
theorem dX2_take_42 : decode cX2_take 42 = .ok (.ifCond .eq 25, 3) := by decide +kernel
theorem dX2_take_45 : decode cX2_take 45 = .ok (.iload 7, 2) := by decide +kernel
theorem dX2_take_47 : decode cX2_take 47 = .ok (.iconst 0, 1) := by decide +kernel
theorem dX2_take_48 : decode cX2_take 48 = .ok (.sipush 256, 3) := by decide +kernel
theorem dX2_take_51 : decode cX2_take 51 = .ok (.invokestatic 16, 3) := by decide +kernel
theorem dX2_take_54 : decode cX2_take 54 = .ok (.ifCond .eq 13, 3) := by decide +kernel
theorem dX2_take_57 : decode cX2_take 57 = .ok (.iload 4, 2) := by decide +kernel
theorem dX2_take_59 : decode cX2_take 59 = .ok (.iload 6, 2) := by decide +kernel
theorem dX2_take_61 : decode cX2_take 61 = .ok (.invokestatic 22, 3) := by decide +kernel
theorem dX2_take_64 : decode cX2_take 64 = .ok (.ifCond .eq 5, 3) := by decide +kernel
theorem dX2_take_67 : decode cX2_take 67 = .ok (.iconst 0, 1) := by decide +kernel
theorem dX2_take_68 : decode cX2_take 68 = .ok (.ireturn, 1) := by decide +kernel
theorem dX2_take_69 : decode cX2_take 69 = .ok (.iload 4, 2) := by decide +kernel
theorem dX2_take_71 : decode cX2_take 71 = .ok (.iconst 1, 1) := by decide +kernel
theorem dX2_take_72 : decode cX2_take 72 = .ok (.iload 6, 2) := by decide +kernel
theorem dX2_take_74 : decode cX2_take 74 = .ok (.ishl, 1) := by decide +kernel
theorem dX2_take_75 : decode cX2_take 75 = .ok (.ior, 1) := by decide +kernel
theorem dX2_take_76 : decode cX2_take 76 = .ok (.istore 4, 2) := by decide +kernel
theorem dX2_take_78 : decode cX2_take 78 = .ok (.aload_n 0, 1) := by decide +kernel
theorem dX2_take_79 : decode cX2_take 79 = .ok (.getfield 9, 3) := by decide +kernel
theorem dX2_take_82 : decode cX2_take 82 = .ok (.iload 5, 2) := by decide +kernel
theorem dX2_take_84 : decode cX2_take 84 = .ok (.iload 6, 2) := by decide +kernel
theorem dX2_take_86 : decode cX2_take 86 = .ok (.iastore, 1) := by decide +kernel
theorem dX2_take_87 : decode cX2_take 87 = .ok (.aload_n 0, 1) := by decide +kernel
theorem dX2_take_88 : decode cX2_take 88 = .ok (.getfield 13, 3) := by decide +kernel
theorem dX2_take_91 : decode cX2_take 91 = .ok (.iload 5, 2) := by decide +kernel
theorem dX2_take_93 : decode cX2_take 93 = .ok (.iload 7, 2) := by decide +kernel
theorem dX2_take_95 : decode cX2_take 95 = .ok (.iastore, 1) := by decide +kernel
theorem dX2_take_96 : decode cX2_take 96 = .ok (.iinc 5 1, 3) := by decide +kernel
theorem dX2_take_99 : decode cX2_take 99 = .ok (.goto (-93), 3) := by decide +kernel
theorem dX2_take_102 : decode cX2_take 102 = .ok (.iconst 1, 1) := by decide +kernel
theorem dX2_take_103 : decode cX2_take 103 = .ok (.ireturn, 1) := by decide +kernel
theorem dX2_sumAt_0 : decode cX2_sumAt 0 = .ok (.iconst 0, 1) := by decide +kernel
theorem dX2_sumAt_1 : decode cX2_sumAt 1 = .ok (.istore_n 3, 1) := by decide +kernel
theorem dX2_sumAt_2 : decode cX2_sumAt 2 = .ok (.iconst 0, 1) := by decide +kernel
theorem dX2_sumAt_3 : decode cX2_sumAt 3 = .ok (.istore 4, 2) := by decide +kernel
theorem dX2_sumAt_5 : decode cX2_sumAt 5 = .ok (.iload 4, 2) := by decide +kernel
theorem dX2_sumAt_7 : decode cX2_sumAt 7 = .ok (.iload_n 2, 1) := by decide +kernel
theorem dX2_sumAt_8 : decode cX2_sumAt 8 = .ok (.if_icmp .ge 112, 3) := by decide +kernel
theorem dX2_sumAt_11 : decode cX2_sumAt 11 = .ok (.aload_n 0, 1) := by decide +kernel
theorem dX2_sumAt_12 : decode cX2_sumAt 12 = .ok (.getfield 13, 3) := by decide +kernel
theorem dX2_sumAt_15 : decode cX2_sumAt 15 = .ok (.iload 4, 2) := by decide +kernel
theorem dX2_sumAt_17 : decode cX2_sumAt 17 = .ok (.iaload, 1) := by decide +kernel
theorem dX2_sumAt_18 : decode cX2_sumAt 18 = .ok (.istore 5, 2) := by decide +kernel
theorem dX2_sumAt_20 : decode cX2_sumAt 20 = .ok (.iconst 1, 1) := by decide +kernel
theorem dX2_sumAt_21 : decode cX2_sumAt 21 = .ok (.istore 6, 2) := by decide +kernel
theorem dX2_sumAt_23 : decode cX2_sumAt 23 = .ok (.iconst 0, 1) := by decide +kernel
theorem dX2_sumAt_24 : decode cX2_sumAt 24 = .ok (.istore 7, 2) := by decide +kernel
theorem dX2_sumAt_26 : decode cX2_sumAt 26 = .ok (.iload 7, 2) := by decide +kernel
theorem dX2_sumAt_28 : decode cX2_sumAt 28 = .ok (.iload_n 2, 1) := by decide +kernel
theorem dX2_sumAt_29 : decode cX2_sumAt 29 = .ok (.if_icmp .ge 70, 3) := by decide +kernel
theorem dX2_sumAt_32 : decode cX2_sumAt 32 = .ok (.iload 7, 2) := by decide +kernel
theorem dX2_sumAt_34 : decode cX2_sumAt 34 = .ok (.iload 4, 2) := by decide +kernel
theorem dX2_sumAt_36 : decode cX2_sumAt 36 = .ok (.if_icmp .eq 57, 3) := by decide +kernel
theorem dX2_sumAt_39 : decode cX2_sumAt 39 = .ok (.iload 5, 2) := by decide +kernel
theorem dX2_sumAt_41 : decode cX2_sumAt 41 = .ok (.iload_n 1, 1) := by decide +kernel
theorem dX2_sumAt_42 : decode cX2_sumAt 42 = .ok (.aload_n 0, 1) := by decide +kernel
theorem dX2_sumAt_43 : decode cX2_sumAt 43 = .ok (.getfield 9, 3) := by decide +kernel
theorem dX2_sumAt_46 : decode cX2_sumAt 46 = .ok (.iload 7, 2) := by decide +kernel
theorem dX2_sumAt_48 : decode cX2_sumAt 48 = .ok (.iaload, 1) := by decide +kernel
theorem dX2_sumAt_49 : decode cX2_sumAt 49 = .ok (.isub, 1) := by decide +kernel
theorem dX2_sumAt_50 : decode cX2_sumAt 50 = .ok (.sipush 257, 3) := by decide +kernel
theorem dX2_sumAt_53 : decode cX2_sumAt 53 = .ok (.invokestatic 26, 3) := by decide +kernel
theorem dX2_sumAt_56 : decode cX2_sumAt 56 = .ok (.imul, 1) := by decide +kernel
theorem dX2_sumAt_57 : decode cX2_sumAt 57 = .ok (.sipush 257, 3) := by decide +kernel
theorem dX2_sumAt_60 : decode cX2_sumAt 60 = .ok (.irem, 1) := by decide +kernel
theorem dX2_sumAt_61 : decode cX2_sumAt 61 = .ok (.istore 5, 2) := by decide +kernel
theorem dX2_sumAt_63 : decode cX2_sumAt 63 = .ok (.iload 6, 2) := by decide +kernel
theorem dX2_sumAt_65 : decode cX2_sumAt 65 = .ok (.aload_n 0, 1) := by decide +kernel
theorem dX2_sumAt_66 : decode cX2_sumAt 66 = .ok (.getfield 9, 3) := by decide +kernel
theorem dX2_sumAt_69 : decode cX2_sumAt 69 = .ok (.iload 4, 2) := by decide +kernel
theorem dX2_sumAt_71 : decode cX2_sumAt 71 = .ok (.iaload, 1) := by decide +kernel
theorem dX2_sumAt_72 : decode cX2_sumAt 72 = .ok (.aload_n 0, 1) := by decide +kernel
theorem dX2_sumAt_73 : decode cX2_sumAt 73 = .ok (.getfield 9, 3) := by decide +kernel
theorem dX2_sumAt_76 : decode cX2_sumAt 76 = .ok (.iload 7, 2) := by decide +kernel
theorem dX2_sumAt_78 : decode cX2_sumAt 78 = .ok (.iaload, 1) := by decide +kernel
theorem dX2_sumAt_79 : decode cX2_sumAt 79 = .ok (.isub, 1) := by decide +kernel
theorem dX2_sumAt_80 : decode cX2_sumAt 80 = .ok (.sipush 257, 3) := by decide +kernel
theorem dX2_sumAt_83 : decode cX2_sumAt 83 = .ok (.invokestatic 26, 3) := by decide +kernel
theorem dX2_sumAt_86 : decode cX2_sumAt 86 = .ok (.imul, 1) := by decide +kernel
theorem dX2_sumAt_87 : decode cX2_sumAt 87 = .ok (.sipush 257, 3) := by decide +kernel
theorem dX2_sumAt_90 : decode cX2_sumAt 90 = .ok (.irem, 1) := by decide +kernel
theorem dX2_sumAt_91 : decode cX2_sumAt 91 = .ok (.istore 6, 2) := by decide +kernel
theorem dX2_sumAt_93 : decode cX2_sumAt 93 = .ok (.iinc 7 1, 3) := by decide +kernel
theorem dX2_sumAt_96 : decode cX2_sumAt 96 = .ok (.goto (-70), 3) := by decide +kernel
theorem dX2_sumAt_99 : decode cX2_sumAt 99 = .ok (.iload_n 3, 1) := by decide +kernel
theorem dX2_sumAt_100 : decode cX2_sumAt 100 = .ok (.iload 5, 2) := by decide +kernel
theorem dX2_sumAt_102 : decode cX2_sumAt 102 = .ok (.iload 6, 2) := by decide +kernel
theorem dX2_sumAt_104 : decode cX2_sumAt 104 = .ok (.invokestatic 32, 3) := by decide +kernel
theorem dX2_sumAt_107 : decode cX2_sumAt 107 = .ok (.imul, 1) := by decide +kernel
theorem dX2_sumAt_108 : decode cX2_sumAt 108 = .ok (.iadd, 1) := by decide +kernel
theorem dX2_sumAt_109 : decode cX2_sumAt 109 = .ok (.sipush 257, 3) := by decide +kernel
theorem dX2_sumAt_112 : decode cX2_sumAt 112 = .ok (.irem, 1) := by decide +kernel
theorem dX2_sumAt_113 : decode cX2_sumAt 113 = .ok (.istore_n 3, 1) := by decide +kernel
theorem dX2_sumAt_114 : decode cX2_sumAt 114 = .ok (.iinc 4 1, 3) := by decide +kernel
theorem dX2_sumAt_117 : decode cX2_sumAt 117 = .ok (.goto (-112), 3) := by decide +kernel
theorem dX2_sumAt_120 : decode cX2_sumAt 120 = .ok (.iload_n 3, 1) := by decide +kernel
theorem dX2_sumAt_121 : decode cX2_sumAt 121 = .ok (.ireturn, 1) := by decide +kernel
theorem dX2_inverse_0 : decode cX2_inverse 0 = .ok (.iconst 1, 1) := by decide +kernel
theorem dX2_inverse_1 : decode cX2_inverse 1 = .ok (.istore_n 1, 1) := by decide +kernel
theorem dX2_inverse_2 : decode cX2_inverse 2 = .ok (.iconst 0, 1) := by decide +kernel
theorem dX2_inverse_3 : decode cX2_inverse 3 = .ok (.istore_n 2, 1) := by decide +kernel
theorem dX2_inverse_4 : decode cX2_inverse 4 = .ok (.iload_n 2, 1) := by decide +kernel
theorem dX2_inverse_5 : decode cX2_inverse 5 = .ok (.sipush 255, 3) := by decide +kernel
theorem dX2_inverse_8 : decode cX2_inverse 8 = .ok (.if_icmp .ge 17, 3) := by decide +kernel
theorem dX2_inverse_11 : decode cX2_inverse 11 = .ok (.iload_n 1, 1) := by decide +kernel
theorem dX2_inverse_12 : decode cX2_inverse 12 = .ok (.iload_n 0, 1) := by decide +kernel
theorem dX2_inverse_13 : decode cX2_inverse 13 = .ok (.imul, 1) := by decide +kernel
theorem dX2_inverse_14 : decode cX2_inverse 14 = .ok (.sipush 257, 3) := by decide +kernel
theorem dX2_inverse_17 : decode cX2_inverse 17 = .ok (.irem, 1) := by decide +kernel
theorem dX2_inverse_18 : decode cX2_inverse 18 = .ok (.istore_n 1, 1) := by decide +kernel
theorem dX2_inverse_19 : decode cX2_inverse 19 = .ok (.iinc 2 1, 3) := by decide +kernel
theorem dX2_inverse_22 : decode cX2_inverse 22 = .ok (.goto (-18), 3) := by decide +kernel
theorem dX2_inverse_25 : decode cX2_inverse 25 = .ok (.iload_n 1, 1) := by decide +kernel
theorem dX2_inverse_26 : decode cX2_inverse 26 = .ok (.ireturn, 1) := by decide +kernel
theorem dX2_possible_0 : decode cX2_possible 0 = .ok (.iload_n 1, 1) := by decide +kernel
theorem dX2_possible_1 : decode cX2_possible 1 = .ok (.iload_n 2, 1) := by decide +kernel
theorem dX2_possible_2 : decode cX2_possible 2 = .ok (.if_icmp .ge 7, 3) := by decide +kernel
theorem dX2_possible_5 : decode cX2_possible 5 = .ok (.sipush 257, 3) := by decide +kernel
theorem dX2_possible_8 : decode cX2_possible 8 = .ok (.ireturn, 1) := by decide +kernel
theorem dX2_possible_9 : decode cX2_possible 9 = .ok (.iload_n 2, 1) := by decide +kernel
theorem dX2_possible_10 : decode cX2_possible 10 = .ok (.istore_n 3, 1) := by decide +kernel
theorem dX2_possible_11 : decode cX2_possible 11 = .ok (.iload_n 3, 1) := by decide +kernel
theorem dX2_possible_12 : decode cX2_possible 12 = .ok (.iload_n 1, 1) := by decide +kernel
theorem dX2_possible_13 : decode cX2_possible 13 = .ok (.if_icmp .ge 31, 3) := by decide +kernel
theorem dX2_possible_16 : decode cX2_possible 16 = .ok (.aload_n 0, 1) := by decide +kernel
theorem dX2_possible_17 : decode cX2_possible 17 = .ok (.aload_n 0, 1) := by decide +kernel
theorem dX2_possible_18 : decode cX2_possible 18 = .ok (.getfield 9, 3) := by decide +kernel
theorem dX2_possible_21 : decode cX2_possible 21 = .ok (.iload_n 3, 1) := by decide +kernel
theorem dX2_possible_22 : decode cX2_possible 22 = .ok (.iaload, 1) := by decide +kernel
theorem dX2_possible_23 : decode cX2_possible 23 = .ok (.iload_n 2, 1) := by decide +kernel
theorem dX2_possible_24 : decode cX2_possible 24 = .ok (.invokevirtual 36, 3) := by decide +kernel
theorem dX2_possible_27 : decode cX2_possible 27 = .ok (.aload_n 0, 1) := by decide +kernel
theorem dX2_possible_28 : decode cX2_possible 28 = .ok (.getfield 13, 3) := by decide +kernel
theorem dX2_possible_31 : decode cX2_possible 31 = .ok (.iload_n 3, 1) := by decide +kernel
theorem dX2_possible_32 : decode cX2_possible 32 = .ok (.iaload, 1) := by decide +kernel
theorem dX2_possible_33 : decode cX2_possible 33 = .ok (.if_icmp .eq 5, 3) := by decide +kernel
theorem dX2_possible_36 : decode cX2_possible 36 = .ok (.iconst 0, 1) := by decide +kernel
theorem dX2_possible_37 : decode cX2_possible 37 = .ok (.ireturn, 1) := by decide +kernel
theorem dX2_possible_38 : decode cX2_possible 38 = .ok (.iinc 3 1, 3) := by decide +kernel
theorem dX2_possible_41 : decode cX2_possible 41 = .ok (.goto (-30), 3) := by decide +kernel
theorem dX2_possible_44 : decode cX2_possible 44 = .ok (.iconst 1, 1) := by decide +kernel
theorem dX2_possible_45 : decode cX2_possible 45 = .ok (.ireturn, 1) := by decide +kernel
theorem dX3_init_0 : decode cX3_init 0 = .ok (.aload_n 0, 1) := by decide +kernel
theorem dX3_init_1 : decode cX3_init 1 = .ok (.invokespecial 3, 3) := by decide +kernel
theorem dX3_init_4 : decode cX3_init 4 = .ok (.aload_n 0, 1) := by decide +kernel
theorem dX3_init_5 : decode cX3_init 5 = .ok (.iconst 4, 1) := by decide +kernel
theorem dX3_init_6 : decode cX3_init 6 = .ok (.newarray .int, 2) := by decide +kernel
theorem dX3_init_8 : decode cX3_init 8 = .ok (.putfield 9, 3) := by decide +kernel
theorem dX3_init_11 : decode cX3_init 11 = .ok (.aload_n 0, 1) := by decide +kernel
theorem dX3_init_12 : decode cX3_init 12 = .ok (.iconst 4, 1) := by decide +kernel
theorem dX3_init_13 : decode cX3_init 13 = .ok (.newarray .int, 2) := by decide +kernel
theorem dX3_init_15 : decode cX3_init 15 = .ok (.putfield 15, 3) := by decide +kernel
theorem dX3_init_18 : decode cX3_init 18 = .ok (.aload_n 0, 1) := by decide +kernel
theorem dX3_init_19 : decode cX3_init 19 = .ok (.iconst 4, 1) := by decide +kernel
theorem dX3_init_20 : decode cX3_init 20 = .ok (.newarray .int, 2) := by decide +kernel
theorem dX3_init_22 : decode cX3_init 22 = .ok (.putfield 18, 3) := by decide +kernel
theorem dX3_init_25 : decode cX3_init 25 = .ok (.aload_n 0, 1) := by decide +kernel
theorem dX3_init_26 : decode cX3_init 26 = .ok (.iconst 4, 1) := by decide +kernel
theorem dX3_init_27 : decode cX3_init 27 = .ok (.bipush 8, 2) := by decide +kernel
theorem dX3_init_29 : decode cX3_init 29 = .ok (.multianewarray 21 2, 4) := by decide +kernel
theorem dX3_init_33 : decode cX3_init 33 = .ok (.putfield 23, 3) := by decide +kernel
theorem dX3_init_36 : decode cX3_init 36 = .ok (.aload_n 0, 1) := by decide +kernel
theorem dX3_init_37 : decode cX3_init 37 = .ok (.iconst 4, 1) := by decide +kernel
theorem dX3_init_38 : decode cX3_init 38 = .ok (.bipush 8, 2) := by decide +kernel
theorem dX3_init_40 : decode cX3_init 40 = .ok (.multianewarray 21 2, 4) := by decide +kernel
theorem dX3_init_44 : decode cX3_init 44 = .ok (.putfield 26, 3) := by decide +kernel
theorem dX3_init_47 : decode cX3_init 47 = .ok (.aload_n 0, 1) := by decide +kernel
theorem dX3_init_48 : decode cX3_init 48 = .ok (.iconst 4, 1) := by decide +kernel
theorem dX3_init_49 : decode cX3_init 49 = .ok (.bipush 8, 2) := by decide +kernel
theorem dX3_init_51 : decode cX3_init 51 = .ok (.multianewarray 21 2, 4) := by decide +kernel
theorem dX3_init_55 : decode cX3_init 55 = .ok (.putfield 29, 3) := by decide +kernel
theorem dX3_init_58 : decode cX3_init 58 = .ok (.aload_n 0, 1) := by decide +kernel
theorem dX3_init_59 : decode cX3_init 59 = .ok (.getfield 15, 3) := by decide +kernel
theorem dX3_init_62 : decode cX3_init 62 = .ok (.bipush 15, 2) := by decide +kernel
theorem dX3_init_64 : decode cX3_init 64 = .ok (.invokestatic 32, 3) := by decide +kernel
theorem dX3_init_67 : decode cX3_init 67 = .ok (.return_, 1) := by decide +kernel
theorem dX3_addAsk_0 : decode cX3_addAsk 0 = .ok (.aload_n 0, 1) := by decide +kernel
theorem dX3_addAsk_1 : decode cX3_addAsk 1 = .ok (.getfield 18, 3) := by decide +kernel
theorem dX3_addAsk_4 : decode cX3_addAsk 4 = .ok (.iload_n 1, 1) := by decide +kernel
theorem dX3_addAsk_5 : decode cX3_addAsk 5 = .ok (.iaload, 1) := by decide +kernel
theorem dX3_addAsk_6 : decode cX3_addAsk 6 = .ok (.istore 5, 2) := by decide +kernel
theorem dX3_addAsk_8 : decode cX3_addAsk 8 = .ok (.iload 5, 2) := by decide +kernel
theorem dX3_addAsk_10 : decode cX3_addAsk 10 = .ok (.bipush 8, 2) := by decide +kernel
theorem dX3_addAsk_12 : decode cX3_addAsk 12 = .ok (.if_icmp .ge 44, 3) := by decide +kernel
theorem dX3_addAsk_15 : decode cX3_addAsk 15 = .ok (.aload_n 0, 1) := by decide +kernel
theorem dX3_addAsk_16 : decode cX3_addAsk 16 = .ok (.getfield 23, 3) := by decide +kernel
theorem dX3_addAsk_19 : decode cX3_addAsk 19 = .ok (.iload_n 1, 1) := by decide +kernel
theorem dX3_addAsk_20 : decode cX3_addAsk 20 = .ok (.aaload, 1) := by decide +kernel
theorem dX3_addAsk_21 : decode cX3_addAsk 21 = .ok (.iload 5, 2) := by decide +kernel
theorem dX3_addAsk_23 : decode cX3_addAsk 23 = .ok (.iload_n 2, 1) := by decide +kernel
theorem dX3_addAsk_24 : decode cX3_addAsk 24 = .ok (.iastore, 1) := by decide +kernel
theorem dX3_addAsk_25 : decode cX3_addAsk 25 = .ok (.aload_n 0, 1) := by decide +kernel
theorem dX3_addAsk_26 : decode cX3_addAsk 26 = .ok (.getfield 26, 3) := by decide +kernel
theorem dX3_addAsk_29 : decode cX3_addAsk 29 = .ok (.iload_n 1, 1) := by decide +kernel
theorem dX3_addAsk_30 : decode cX3_addAsk 30 = .ok (.aaload, 1) := by decide +kernel
theorem dX3_addAsk_31 : decode cX3_addAsk 31 = .ok (.iload 5, 2) := by decide +kernel
theorem dX3_addAsk_33 : decode cX3_addAsk 33 = .ok (.iload_n 3, 1) := by decide +kernel
theorem dX3_addAsk_34 : decode cX3_addAsk 34 = .ok (.iastore, 1) := by decide +kernel
theorem dX3_addAsk_35 : decode cX3_addAsk 35 = .ok (.aload_n 0, 1) := by decide +kernel
theorem dX3_addAsk_36 : decode cX3_addAsk 36 = .ok (.getfield 29, 3) := by decide +kernel
theorem dX3_addAsk_39 : decode cX3_addAsk 39 = .ok (.iload_n 1, 1) := by decide +kernel
theorem dX3_addAsk_40 : decode cX3_addAsk 40 = .ok (.aaload, 1) := by decide +kernel
theorem dX3_addAsk_41 : decode cX3_addAsk 41 = .ok (.iload 5, 2) := by decide +kernel
theorem dX3_addAsk_43 : decode cX3_addAsk 43 = .ok (.iload 4, 2) := by decide +kernel
theorem dX3_addAsk_45 : decode cX3_addAsk 45 = .ok (.iastore, 1) := by decide +kernel
theorem dX3_addAsk_46 : decode cX3_addAsk 46 = .ok (.aload_n 0, 1) := by decide +kernel
theorem dX3_addAsk_47 : decode cX3_addAsk 47 = .ok (.getfield 18, 3) := by decide +kernel
theorem dX3_addAsk_50 : decode cX3_addAsk 50 = .ok (.iload_n 1, 1) := by decide +kernel
theorem dX3_addAsk_51 : decode cX3_addAsk 51 = .ok (.iload 5, 2) := by decide +kernel
theorem dX3_addAsk_53 : decode cX3_addAsk 53 = .ok (.iconst 1, 1) := by decide +kernel
theorem dX3_addAsk_54 : decode cX3_addAsk 54 = .ok (.iadd, 1) := by decide +kernel
theorem dX3_addAsk_55 : decode cX3_addAsk 55 = .ok (.iastore, 1) := by decide +kernel
theorem dX3_addAsk_56 : decode cX3_addAsk 56 = .ok (.return_, 1) := by decide +kernel
theorem dX3_asksTooMuch_0 : decode cX3_asksTooMuch 0 = .ok (.iconst 0, 1) := by decide +kernel
theorem dX3_asksTooMuch_1 : decode cX3_asksTooMuch 1 = .ok (.istore_n 2, 1) := by decide +kernel
theorem dX3_asksTooMuch_2 : decode cX3_asksTooMuch 2 = .ok (.iload_n 2, 1) := by decide +kernel
theorem dX3_asksTooMuch_3 : decode cX3_asksTooMuch 3 = .ok (.aload_n 0, 1) := by decide +kernel
theorem dX3_asksTooMuch_4 : decode cX3_asksTooMuch 4 = .ok (.getfield 18, 3) := by decide +kernel
theorem dX3_asksTooMuch_7 : decode cX3_asksTooMuch 7 = .ok (.iload_n 1, 1) := by decide +kernel
theorem dX3_asksTooMuch_8 : decode cX3_asksTooMuch 8 = .ok (.iaload, 1) := by decide +kernel
theorem dX3_asksTooMuch_9 : decode cX3_asksTooMuch 9 = .ok (.if_icmp .ge 42, 3) := by decide +kernel
theorem dX3_asksTooMuch_12 : decode cX3_asksTooMuch 12 = .ok (.aload_n 0, 1) := by decide +kernel
theorem dX3_asksTooMuch_13 : decode cX3_asksTooMuch 13 = .ok (.getfield 23, 3) := by decide +kernel
theorem dX3_asksTooMuch_16 : decode cX3_asksTooMuch 16 = .ok (.iload_n 1, 1) := by decide +kernel
theorem dX3_asksTooMuch_17 : decode cX3_asksTooMuch 17 = .ok (.aaload, 1) := by decide +kernel
theorem dX3_asksTooMuch_18 : decode cX3_asksTooMuch 18 = .ok (.iload_n 2, 1) := by decide +kernel
theorem dX3_asksTooMuch_19 : decode cX3_asksTooMuch 19 = .ok (.iaload, 1) := by decide +kernel
theorem dX3_asksTooMuch_20 : decode cX3_asksTooMuch 20 = .ok (.ifCond .eq 25, 3) := by decide +kernel
theorem dX3_asksTooMuch_23 : decode cX3_asksTooMuch 23 = .ok (.aload_n 0, 1) := by decide +kernel
theorem dX3_asksTooMuch_24 : decode cX3_asksTooMuch 24 = .ok (.getfield 15, 3) := by decide +kernel
theorem dX3_asksTooMuch_27 : decode cX3_asksTooMuch 27 = .ok (.iload_n 1, 1) := by decide +kernel
theorem dX3_asksTooMuch_28 : decode cX3_asksTooMuch 28 = .ok (.iaload, 1) := by decide +kernel
theorem dX3_asksTooMuch_29 : decode cX3_asksTooMuch 29 = .ok (.aload_n 0, 1) := by decide +kernel
theorem dX3_asksTooMuch_30 : decode cX3_asksTooMuch 30 = .ok (.getfield 26, 3) := by decide +kernel
theorem dX3_asksTooMuch_33 : decode cX3_asksTooMuch 33 = .ok (.iload_n 1, 1) := by decide +kernel
theorem dX3_asksTooMuch_34 : decode cX3_asksTooMuch 34 = .ok (.aaload, 1) := by decide +kernel
theorem dX3_asksTooMuch_35 : decode cX3_asksTooMuch 35 = .ok (.iload_n 2, 1) := by decide +kernel
theorem dX3_asksTooMuch_36 : decode cX3_asksTooMuch 36 = .ok (.iaload, 1) := by decide +kernel
theorem dX3_asksTooMuch_37 : decode cX3_asksTooMuch 37 = .ok (.invokestatic 38, 3) := by decide +kernel
theorem dX3_asksTooMuch_40 : decode cX3_asksTooMuch 40 = .ok (.ifCond .ne 5, 3) := by decide +kernel
theorem dX3_asksTooMuch_43 : decode cX3_asksTooMuch 43 = .ok (.iconst 1, 1) := by decide +kernel
theorem dX3_asksTooMuch_44 : decode cX3_asksTooMuch 44 = .ok (.ireturn, 1) := by decide +kernel
theorem dX3_asksTooMuch_45 : decode cX3_asksTooMuch 45 = .ok (.iinc 2 1, 3) := by decide +kernel
theorem dX3_asksTooMuch_48 : decode cX3_asksTooMuch 48 = .ok (.goto (-46), 3) := by decide +kernel
theorem dX3_asksTooMuch_51 : decode cX3_asksTooMuch 51 = .ok (.iconst 0, 1) := by decide +kernel
theorem dX3_asksTooMuch_52 : decode cX3_asksTooMuch 52 = .ok (.ireturn, 1) := by decide +kernel
theorem dX3_fittedBy_0 : decode cX3_fittedBy 0 = .ok (.iconst 0, 1) := by decide +kernel
theorem dX3_fittedBy_1 : decode cX3_fittedBy 1 = .ok (.istore_n 3, 1) := by decide +kernel
theorem dX3_fittedBy_2 : decode cX3_fittedBy 2 = .ok (.iconst 0, 1) := by decide +kernel
theorem dX3_fittedBy_3 : decode cX3_fittedBy 3 = .ok (.istore 4, 2) := by decide +kernel
theorem dX3_fittedBy_5 : decode cX3_fittedBy 5 = .ok (.iload 4, 2) := by decide +kernel
theorem dX3_fittedBy_7 : decode cX3_fittedBy 7 = .ok (.aload_n 0, 1) := by decide +kernel
theorem dX3_fittedBy_8 : decode cX3_fittedBy 8 = .ok (.getfield 18, 3) := by decide +kernel
theorem dX3_fittedBy_11 : decode cX3_fittedBy 11 = .ok (.iload_n 2, 1) := by decide +kernel
theorem dX3_fittedBy_12 : decode cX3_fittedBy 12 = .ok (.iaload, 1) := by decide +kernel
theorem dX3_fittedBy_13 : decode cX3_fittedBy 13 = .ok (.if_icmp .ge 50, 3) := by decide +kernel
theorem dX3_fittedBy_16 : decode cX3_fittedBy 16 = .ok (.aload_n 1, 1) := by decide +kernel
theorem dX3_fittedBy_17 : decode cX3_fittedBy 17 = .ok (.aload_n 0, 1) := by decide +kernel
theorem dX3_fittedBy_18 : decode cX3_fittedBy 18 = .ok (.getfield 23, 3) := by decide +kernel
theorem dX3_fittedBy_21 : decode cX3_fittedBy 21 = .ok (.iload_n 2, 1) := by decide +kernel
theorem dX3_fittedBy_22 : decode cX3_fittedBy 22 = .ok (.aaload, 1) := by decide +kernel
theorem dX3_fittedBy_23 : decode cX3_fittedBy 23 = .ok (.iload 4, 2) := by decide +kernel
theorem dX3_fittedBy_25 : decode cX3_fittedBy 25 = .ok (.iaload, 1) := by decide +kernel
theorem dX3_fittedBy_26 : decode cX3_fittedBy 26 = .ok (.aload_n 0, 1) := by decide +kernel
theorem dX3_fittedBy_27 : decode cX3_fittedBy 27 = .ok (.getfield 26, 3) := by decide +kernel
theorem dX3_fittedBy_30 : decode cX3_fittedBy 30 = .ok (.iload_n 2, 1) := by decide +kernel
theorem dX3_fittedBy_31 : decode cX3_fittedBy 31 = .ok (.aaload, 1) := by decide +kernel
theorem dX3_fittedBy_32 : decode cX3_fittedBy 32 = .ok (.iload 4, 2) := by decide +kernel
theorem dX3_fittedBy_34 : decode cX3_fittedBy 34 = .ok (.iaload, 1) := by decide +kernel
theorem dX3_fittedBy_35 : decode cX3_fittedBy 35 = .ok (.aload_n 0, 1) := by decide +kernel
theorem dX3_fittedBy_36 : decode cX3_fittedBy 36 = .ok (.getfield 29, 3) := by decide +kernel
theorem dX3_fittedBy_39 : decode cX3_fittedBy 39 = .ok (.iload_n 2, 1) := by decide +kernel
theorem dX3_fittedBy_40 : decode cX3_fittedBy 40 = .ok (.aaload, 1) := by decide +kernel
theorem dX3_fittedBy_41 : decode cX3_fittedBy 41 = .ok (.iload 4, 2) := by decide +kernel
theorem dX3_fittedBy_43 : decode cX3_fittedBy 43 = .ok (.iaload, 1) := by decide +kernel
theorem dX3_fittedBy_44 : decode cX3_fittedBy 44 = .ok (.invokestatic 42, 3) := by decide +kernel
theorem dX3_fittedBy_47 : decode cX3_fittedBy 47 = .ok (.ifCond .eq 10, 3) := by decide +kernel
theorem dX3_fittedBy_50 : decode cX3_fittedBy 50 = .ok (.iload_n 3, 1) := by decide +kernel
theorem dX3_fittedBy_51 : decode cX3_fittedBy 51 = .ok (.iconst 1, 1) := by decide +kernel
theorem dX3_fittedBy_52 : decode cX3_fittedBy 52 = .ok (.iload 4, 2) := by decide +kernel
theorem dX3_fittedBy_54 : decode cX3_fittedBy 54 = .ok (.ishl, 1) := by decide +kernel
theorem dX3_fittedBy_55 : decode cX3_fittedBy 55 = .ok (.ior, 1) := by decide +kernel
theorem dX3_fittedBy_56 : decode cX3_fittedBy 56 = .ok (.istore_n 3, 1) := by decide +kernel
theorem dX3_fittedBy_57 : decode cX3_fittedBy 57 = .ok (.iinc 4 1, 3) := by decide +kernel
theorem dX3_fittedBy_60 : decode cX3_fittedBy 60 = .ok (.goto (-55), 3) := by decide +kernel
theorem dX3_fittedBy_63 : decode cX3_fittedBy 63 = .ok (.iload_n 3, 1) := by decide +kernel
theorem dX3_fittedBy_64 : decode cX3_fittedBy 64 = .ok (.ireturn, 1) := by decide +kernel
theorem dX3_isFitted_0 : decode cX3_isFitted 0 = .ok (.iload_n 1, 1) := by decide +kernel
theorem dX3_isFitted_1 : decode cX3_isFitted 1 = .ok (.ifCond .ne 17, 3) := by decide +kernel
theorem dX3_isFitted_4 : decode cX3_isFitted 4 = .ok (.aload_n 0, 1) := by decide +kernel
theorem dX3_isFitted_5 : decode cX3_isFitted 5 = .ok (.getfield 46, 3) := by decide +kernel
theorem dX3_isFitted_8 : decode cX3_isFitted 8 = .ok (.iload_n 2, 1) := by decide +kernel
theorem dX3_isFitted_9 : decode cX3_isFitted 9 = .ok (.if_icmp .ne 7, 3) := by decide +kernel
theorem dX3_isFitted_12 : decode cX3_isFitted 12 = .ok (.iconst 1, 1) := by decide +kernel
theorem dX3_isFitted_13 : decode cX3_isFitted 13 = .ok (.goto 4, 3) := by decide +kernel
theorem dX3_isFitted_16 : decode cX3_isFitted 16 = .ok (.iconst 0, 1) := by decide +kernel
theorem dX3_isFitted_17 : decode cX3_isFitted 17 = .ok (.ireturn, 1) := by decide +kernel
theorem dX3_isFitted_18 : decode cX3_isFitted 18 = .ok (.iload_n 1, 1) := by decide +kernel
theorem dX3_isFitted_19 : decode cX3_isFitted 19 = .ok (.iconst 1, 1) := by decide +kernel
theorem dX3_isFitted_20 : decode cX3_isFitted 20 = .ok (.if_icmp .eq 13, 3) := by decide +kernel
theorem dX3_isFitted_23 : decode cX3_isFitted 23 = .ok (.aload_n 0, 1) := by decide +kernel
theorem dX3_isFitted_24 : decode cX3_isFitted 24 = .ok (.getfield 52, 3) := by decide +kernel
theorem dX3_isFitted_27 : decode cX3_isFitted 27 = .ok (.iload_n 2, 1) := by decide +kernel
theorem dX3_isFitted_28 : decode cX3_isFitted 28 = .ok (.iaload, 1) := by decide +kernel
theorem dX3_isFitted_29 : decode cX3_isFitted 29 = .ok (.iload_n 3, 1) := by decide +kernel
theorem dX3_isFitted_30 : decode cX3_isFitted 30 = .ok (.if_icmp .lt 7, 3) := by decide +kernel
theorem dX3_isFitted_33 : decode cX3_isFitted 33 = .ok (.iconst 1, 1) := by decide +kernel
theorem dX3_isFitted_34 : decode cX3_isFitted 34 = .ok (.goto 4, 3) := by decide +kernel
theorem dX3_isFitted_37 : decode cX3_isFitted 37 = .ok (.iconst 0, 1) := by decide +kernel
theorem dX3_isFitted_38 : decode cX3_isFitted 38 = .ok (.ireturn, 1) := by decide +kernel
theorem dX4_init_0 : decode cX4_init 0 = .ok (.aload_n 0, 1) := by decide +kernel
theorem dX4_init_1 : decode cX4_init 1 = .ok (.invokespecial 1, 3) := by decide +kernel
theorem dX4_init_4 : decode cX4_init 4 = .ok (.aload_n 0, 1) := by decide +kernel
theorem dX4_init_5 : decode cX4_init 5 = .ok (.bipush 7, 2) := by decide +kernel
theorem dX4_init_7 : decode cX4_init 7 = .ok (.newarray .int, 2) := by decide +kernel
theorem dX4_init_9 : decode cX4_init 9 = .ok (.putfield 9, 3) := by decide +kernel
theorem dX4_init_12 : decode cX4_init 12 = .ok (.aload_n 0, 1) := by decide +kernel
theorem dX4_init_13 : decode cX4_init 13 = .ok (.bipush 7, 2) := by decide +kernel
theorem dX4_init_15 : decode cX4_init 15 = .ok (.newarray .int, 2) := by decide +kernel
theorem dX4_init_17 : decode cX4_init 17 = .ok (.putfield 13, 3) := by decide +kernel
theorem dX4_init_20 : decode cX4_init 20 = .ok (.aload_n 0, 1) := by decide +kernel
theorem dX4_init_21 : decode cX4_init 21 = .ok (.bipush 7, 2) := by decide +kernel
theorem dX4_init_23 : decode cX4_init 23 = .ok (.newarray .int, 2) := by decide +kernel
theorem dX4_init_25 : decode cX4_init 25 = .ok (.putfield 16, 3) := by decide +kernel
theorem dX4_init_28 : decode cX4_init 28 = .ok (.aload_n 0, 1) := by decide +kernel
theorem dX4_init_29 : decode cX4_init 29 = .ok (.bipush 7, 2) := by decide +kernel
theorem dX4_init_31 : decode cX4_init 31 = .ok (.newarray .int, 2) := by decide +kernel
theorem dX4_init_33 : decode cX4_init 33 = .ok (.putfield 19, 3) := by decide +kernel
theorem dX4_init_36 : decode cX4_init 36 = .ok (.return_, 1) := by decide +kernel
theorem dX4_take_0 : decode cX4_take 0 = .ok (.aload_n 0, 1) := by decide +kernel
theorem dX4_take_1 : decode cX4_take 1 = .ok (.iload_n 3, 1) := by decide +kernel
theorem dX4_take_2 : decode cX4_take 2 = .ok (.putfield 22, 3) := by decide +kernel
theorem dX4_take_5 : decode cX4_take 5 = .ok (.iconst 0, 1) := by decide +kernel
theorem dX4_take_6 : decode cX4_take 6 = .ok (.istore 4, 2) := by decide +kernel
theorem dX4_take_8 : decode cX4_take 8 = .ok (.iload 4, 2) := by decide +kernel
theorem dX4_take_10 : decode cX4_take 10 = .ok (.iload_n 3, 1) := by decide +kernel
theorem dX4_take_11 : decode cX4_take 11 = .ok (.if_icmp .ge 76, 3) := by decide +kernel
theorem dX4_take_14 : decode cX4_take 14 = .ok (.aload_n 0, 1) := by decide +kernel
theorem dX4_take_15 : decode cX4_take 15 = .ok (.getfield 9, 3) := by decide +kernel
theorem dX4_take_18 : decode cX4_take 18 = .ok (.iload 4, 2) := by decide +kernel
theorem dX4_take_20 : decode cX4_take 20 = .ok (.aload_n 1, 1) := by decide +kernel
theorem dX4_take_21 : decode cX4_take 21 = .ok (.iload_n 2, 1) := by decide +kernel
theorem dX4_take_22 : decode cX4_take 22 = .ok (.iconst 2, 1) := by decide +kernel
theorem dX4_take_23 : decode cX4_take 23 = .ok (.iload 4, 2) := by decide +kernel
theorem dX4_take_25 : decode cX4_take 25 = .ok (.imul, 1) := by decide +kernel
theorem dX4_take_26 : decode cX4_take 26 = .ok (.iadd, 1) := by decide +kernel
theorem dX4_take_27 : decode cX4_take 27 = .ok (.iaload, 1) := by decide +kernel
theorem dX4_take_28 : decode cX4_take 28 = .ok (.iastore, 1) := by decide +kernel
theorem dX4_take_29 : decode cX4_take 29 = .ok (.aload_n 0, 1) := by decide +kernel
theorem dX4_take_30 : decode cX4_take 30 = .ok (.getfield 13, 3) := by decide +kernel
theorem dX4_take_33 : decode cX4_take 33 = .ok (.iload 4, 2) := by decide +kernel
theorem dX4_take_35 : decode cX4_take 35 = .ok (.aload_n 1, 1) := by decide +kernel
theorem dX4_take_36 : decode cX4_take 36 = .ok (.iload_n 2, 1) := by decide +kernel
theorem dX4_take_37 : decode cX4_take 37 = .ok (.iconst 2, 1) := by decide +kernel
theorem dX4_take_38 : decode cX4_take 38 = .ok (.iload 4, 2) := by decide +kernel
theorem dX4_take_40 : decode cX4_take 40 = .ok (.imul, 1) := by decide +kernel
theorem dX4_take_41 : decode cX4_take 41 = .ok (.iadd, 1) := by decide +kernel
theorem dX4_take_42 : decode cX4_take 42 = .ok (.iconst 1, 1) := by decide +kernel
theorem dX4_take_43 : decode cX4_take 43 = .ok (.iadd, 1) := by decide +kernel
theorem dX4_take_44 : decode cX4_take 44 = .ok (.iaload, 1) := by decide +kernel
theorem dX4_take_45 : decode cX4_take 45 = .ok (.iastore, 1) := by decide +kernel
theorem dX4_take_46 : decode cX4_take 46 = .ok (.aload_n 0, 1) := by decide +kernel
theorem dX4_take_47 : decode cX4_take 47 = .ok (.getfield 9, 3) := by decide +kernel
theorem dX4_take_50 : decode cX4_take 50 = .ok (.iload 4, 2) := by decide +kernel
theorem dX4_take_52 : decode cX4_take 52 = .ok (.iaload, 1) := by decide +kernel
theorem dX4_take_53 : decode cX4_take 53 = .ok (.iconst 0, 1) := by decide +kernel
theorem dX4_take_54 : decode cX4_take 54 = .ok (.sipush 999, 3) := by decide +kernel
theorem dX4_take_57 : decode cX4_take 57 = .ok (.invokestatic 26, 3) := by decide +kernel
theorem dX4_take_60 : decode cX4_take 60 = .ok (.ifCond .eq 19, 3) := by decide +kernel
theorem dX4_take_63 : decode cX4_take 63 = .ok (.aload_n 0, 1) := by decide +kernel
theorem dX4_take_64 : decode cX4_take 64 = .ok (.getfield 13, 3) := by decide +kernel
theorem dX4_take_67 : decode cX4_take 67 = .ok (.iload 4, 2) := by decide +kernel
theorem dX4_take_69 : decode cX4_take 69 = .ok (.iaload, 1) := by decide +kernel
theorem dX4_take_70 : decode cX4_take 70 = .ok (.iconst 1, 1) := by decide +kernel
theorem dX4_take_71 : decode cX4_take 71 = .ok (.bipush 99, 2) := by decide +kernel
theorem dX4_take_73 : decode cX4_take 73 = .ok (.invokestatic 26, 3) := by decide +kernel
theorem dX4_take_76 : decode cX4_take 76 = .ok (.ifCond .ne 5, 3) := by decide +kernel
theorem dX4_take_79 : decode cX4_take 79 = .ok (.iconst 0, 1) := by decide +kernel
theorem dX4_take_80 : decode cX4_take 80 = .ok (.ireturn, 1) := by decide +kernel
theorem dX4_take_81 : decode cX4_take 81 = .ok (.iinc 4 1, 3) := by decide +kernel
theorem dX4_take_84 : decode cX4_take 84 = .ok (.goto (-76), 3) := by decide +kernel
theorem dX4_take_87 : decode cX4_take 87 = .ok (.iconst 1, 1) := by decide +kernel
theorem dX4_take_88 : decode cX4_take 88 = .ok (.ireturn, 1) := by decide +kernel
theorem dX4_findBest_0 : decode cX4_findBest 0 = .ok (.aload_n 0, 1) := by decide +kernel
theorem dX4_findBest_1 : decode cX4_findBest 1 = .ok (.ldc 34, 2) := by decide +kernel
theorem dX4_findBest_3 : decode cX4_findBest 3 = .ok (.putfield 35, 3) := by decide +kernel
theorem dX4_findBest_6 : decode cX4_findBest 6 = .ok (.aload_n 0, 1) := by decide +kernel
theorem dX4_findBest_7 : decode cX4_findBest 7 = .ok (.iconst 0, 1) := by decide +kernel
theorem dX4_findBest_8 : decode cX4_findBest 8 = .ok (.iconst 0, 1) := by decide +kernel
theorem dX4_findBest_9 : decode cX4_findBest 9 = .ok (.iconst 0, 1) := by decide +kernel
theorem dX4_findBest_10 : decode cX4_findBest 10 = .ok (.iconst 0, 1) := by decide +kernel
theorem dX4_findBest_11 : decode cX4_findBest 11 = .ok (.invokevirtual 38, 3) := by decide +kernel
theorem dX4_findBest_14 : decode cX4_findBest 14 = .ok (.return_, 1) := by decide +kernel
theorem dX4_extend_0 : decode cX4_extend 0 = .ok (.iload_n 1, 1) := by decide +kernel
theorem dX4_extend_1 : decode cX4_extend 1 = .ok (.aload_n 0, 1) := by decide +kernel
theorem dX4_extend_2 : decode cX4_extend 2 = .ok (.getfield 22, 3) := by decide +kernel
theorem dX4_extend_5 : decode cX4_extend 5 = .ok (.if_icmp .lt 27, 3) := by decide +kernel
theorem dX4_extend_8 : decode cX4_extend 8 = .ok (.aload_n 0, 1) := by decide +kernel
theorem dX4_extend_9 : decode cX4_extend 9 = .ok (.iload 4, 2) := by decide +kernel
theorem dX4_extend_11 : decode cX4_extend 11 = .ok (.putfield 35, 3) := by decide +kernel
theorem dX4_extend_14 : decode cX4_extend 14 = .ok (.aload_n 0, 1) := by decide +kernel
theorem dX4_extend_15 : decode cX4_extend 15 = .ok (.getfield 16, 3) := by decide +kernel
theorem dX4_extend_18 : decode cX4_extend 18 = .ok (.iconst 0, 1) := by decide +kernel
theorem dX4_extend_19 : decode cX4_extend 19 = .ok (.aload_n 0, 1) := by decide +kernel
theorem dX4_extend_20 : decode cX4_extend 20 = .ok (.getfield 19, 3) := by decide +kernel
theorem dX4_extend_23 : decode cX4_extend 23 = .ok (.iconst 0, 1) := by decide +kernel
theorem dX4_extend_24 : decode cX4_extend 24 = .ok (.aload_n 0, 1) := by decide +kernel
theorem dX4_extend_25 : decode cX4_extend 25 = .ok (.getfield 22, 3) := by decide +kernel
theorem dX4_extend_28 : decode cX4_extend 28 = .ok (.invokestatic 42, 3) := by decide +kernel
theorem dX4_extend_31 : decode cX4_extend 31 = .ok (.return_, 1) := by decide +kernel
theorem dX4_extend_32 : decode cX4_extend 32 = .ok (.iconst 0, 1) := by decide +kernel
theorem dX4_extend_33 : decode cX4_extend 33 = .ok (.istore 5, 2) := by decide +kernel
theorem dX4_extend_35 : decode cX4_extend 35 = .ok (.iload 5, 2) := by decide +kernel
theorem dX4_extend_37 : decode cX4_extend 37 = .ok (.aload_n 0, 1) := by decide +kernel
theorem dX4_extend_38 : decode cX4_extend 38 = .ok (.getfield 22, 3) := by decide +kernel
theorem dX4_extend_41 : decode cX4_extend 41 = .ok (.if_icmp .ge 105, 3) := by decide +kernel
theorem dX4_extend_44 : decode cX4_extend 44 = .ok (.iload_n 2, 1) := by decide +kernel
theorem dX4_extend_45 : decode cX4_extend 45 = .ok (.iload 5, 2) := by decide +kernel
theorem dX4_extend_47 : decode cX4_extend 47 = .ok (.invokestatic 48, 3) := by decide +kernel
theorem dX4_extend_50 : decode cX4_extend 50 = .ok (.ifCond .ne 90, 3) := by decide +kernel
theorem dX4_extend_53 : decode cX4_extend 53 = .ok (.iload_n 3, 1) := by decide +kernel
theorem dX4_extend_54 : decode cX4_extend 54 = .ok (.aload_n 0, 1) := by decide +kernel
theorem dX4_extend_55 : decode cX4_extend 55 = .ok (.getfield 9, 3) := by decide +kernel
theorem dX4_extend_58 : decode cX4_extend 58 = .ok (.iload 5, 2) := by decide +kernel
theorem dX4_extend_60 : decode cX4_extend 60 = .ok (.iaload, 1) := by decide +kernel
theorem dX4_extend_61 : decode cX4_extend 61 = .ok (.invokestatic 52, 3) := by decide +kernel
theorem dX4_extend_64 : decode cX4_extend 64 = .ok (.istore 6, 2) := by decide +kernel
theorem dX4_extend_66 : decode cX4_extend 66 = .ok (.iload 6, 2) := by decide +kernel
theorem dX4_extend_68 : decode cX4_extend 68 = .ok (.aload_n 0, 1) := by decide +kernel
theorem dX4_extend_69 : decode cX4_extend 69 = .ok (.getfield 13, 3) := by decide +kernel
theorem dX4_extend_72 : decode cX4_extend 72 = .ok (.iload 5, 2) := by decide +kernel
theorem dX4_extend_74 : decode cX4_extend 74 = .ok (.iaload, 1) := by decide +kernel
theorem dX4_extend_75 : decode cX4_extend 75 = .ok (.iadd, 1) := by decide +kernel
theorem dX4_extend_76 : decode cX4_extend 76 = .ok (.istore 7, 2) := by decide +kernel
theorem dX4_extend_78 : decode cX4_extend 78 = .ok (.iload 4, 2) := by decide +kernel
theorem dX4_extend_80 : decode cX4_extend 80 = .ok (.iload 6, 2) := by decide +kernel
theorem dX4_extend_82 : decode cX4_extend 82 = .ok (.iadd, 1) := by decide +kernel
theorem dX4_extend_83 : decode cX4_extend 83 = .ok (.aload_n 0, 1) := by decide +kernel
theorem dX4_extend_84 : decode cX4_extend 84 = .ok (.getfield 9, 3) := by decide +kernel
theorem dX4_extend_87 : decode cX4_extend 87 = .ok (.iload 5, 2) := by decide +kernel
theorem dX4_extend_89 : decode cX4_extend 89 = .ok (.iaload, 1) := by decide +kernel
theorem dX4_extend_90 : decode cX4_extend 90 = .ok (.isub, 1) := by decide +kernel
theorem dX4_extend_91 : decode cX4_extend 91 = .ok (.istore 8, 2) := by decide +kernel
theorem dX4_extend_93 : decode cX4_extend 93 = .ok (.iload_n 2, 1) := by decide +kernel
theorem dX4_extend_94 : decode cX4_extend 94 = .ok (.iconst 1, 1) := by decide +kernel
theorem dX4_extend_95 : decode cX4_extend 95 = .ok (.iload 5, 2) := by decide +kernel
theorem dX4_extend_97 : decode cX4_extend 97 = .ok (.ishl, 1) := by decide +kernel
theorem dX4_extend_98 : decode cX4_extend 98 = .ok (.ior, 1) := by decide +kernel
theorem dX4_extend_99 : decode cX4_extend 99 = .ok (.istore 9, 2) := by decide +kernel
theorem dX4_extend_101 : decode cX4_extend 101 = .ok (.aload_n 0, 1) := by decide +kernel
theorem dX4_extend_102 : decode cX4_extend 102 = .ok (.getfield 16, 3) := by decide +kernel
theorem dX4_extend_105 : decode cX4_extend 105 = .ok (.iload_n 1, 1) := by decide +kernel
theorem dX4_extend_106 : decode cX4_extend 106 = .ok (.iload 5, 2) := by decide +kernel
theorem dX4_extend_108 : decode cX4_extend 108 = .ok (.iastore, 1) := by decide +kernel
theorem dX4_extend_109 : decode cX4_extend 109 = .ok (.iload 8, 2) := by decide +kernel
theorem dX4_extend_111 : decode cX4_extend 111 = .ok (.aload_n 0, 1) := by decide +kernel
theorem dX4_extend_112 : decode cX4_extend 112 = .ok (.iload 7, 2) := by decide +kernel
theorem dX4_extend_114 : decode cX4_extend 114 = .ok (.iload 9, 2) := by decide +kernel
theorem dX4_extend_116 : decode cX4_extend 116 = .ok (.invokevirtual 58, 3) := by decide +kernel
theorem dX4_extend_119 : decode cX4_extend 119 = .ok (.iadd, 1) := by decide +kernel
theorem dX4_extend_120 : decode cX4_extend 120 = .ok (.aload_n 0, 1) := by decide +kernel
theorem dX4_extend_121 : decode cX4_extend 121 = .ok (.getfield 35, 3) := by decide +kernel
theorem dX4_extend_124 : decode cX4_extend 124 = .ok (.if_icmp .ge 16, 3) := by decide +kernel
theorem dX4_extend_127 : decode cX4_extend 127 = .ok (.aload_n 0, 1) := by decide +kernel
theorem dX4_extend_128 : decode cX4_extend 128 = .ok (.iload_n 1, 1) := by decide +kernel
theorem dX4_extend_129 : decode cX4_extend 129 = .ok (.iconst 1, 1) := by decide +kernel
theorem dX4_extend_130 : decode cX4_extend 130 = .ok (.iadd, 1) := by decide +kernel
theorem dX4_extend_131 : decode cX4_extend 131 = .ok (.iload 9, 2) := by decide +kernel
theorem dX4_extend_133 : decode cX4_extend 133 = .ok (.iload 7, 2) := by decide +kernel
theorem dX4_extend_135 : decode cX4_extend 135 = .ok (.iload 8, 2) := by decide +kernel
theorem dX4_extend_137 : decode cX4_extend 137 = .ok (.invokevirtual 38, 3) := by decide +kernel
theorem dX4_extend_140 : decode cX4_extend 140 = .ok (.iinc 5 1, 3) := by decide +kernel
theorem dX4_extend_143 : decode cX4_extend 143 = .ok (.goto (-108), 3) := by decide +kernel
theorem dX4_extend_146 : decode cX4_extend 146 = .ok (.return_, 1) := by decide +kernel
theorem dX4_waitedAt_0 : decode cX4_waitedAt 0 = .ok (.iconst 0, 1) := by decide +kernel
theorem dX4_waitedAt_1 : decode cX4_waitedAt 1 = .ok (.istore_n 3, 1) := by decide +kernel
theorem dX4_waitedAt_2 : decode cX4_waitedAt 2 = .ok (.iconst 0, 1) := by decide +kernel
theorem dX4_waitedAt_3 : decode cX4_waitedAt 3 = .ok (.istore 4, 2) := by decide +kernel
theorem dX4_waitedAt_5 : decode cX4_waitedAt 5 = .ok (.iload 4, 2) := by decide +kernel
theorem dX4_waitedAt_7 : decode cX4_waitedAt 7 = .ok (.aload_n 0, 1) := by decide +kernel
theorem dX4_waitedAt_8 : decode cX4_waitedAt 8 = .ok (.getfield 22, 3) := by decide +kernel
theorem dX4_waitedAt_11 : decode cX4_waitedAt 11 = .ok (.if_icmp .ge 34, 3) := by decide +kernel
theorem dX4_waitedAt_14 : decode cX4_waitedAt 14 = .ok (.iload_n 2, 1) := by decide +kernel
theorem dX4_waitedAt_15 : decode cX4_waitedAt 15 = .ok (.iload 4, 2) := by decide +kernel
theorem dX4_waitedAt_17 : decode cX4_waitedAt 17 = .ok (.invokestatic 48, 3) := by decide +kernel
theorem dX4_waitedAt_20 : decode cX4_waitedAt 20 = .ok (.ifCond .ne 19, 3) := by decide +kernel
theorem dX4_waitedAt_23 : decode cX4_waitedAt 23 = .ok (.iload_n 3, 1) := by decide +kernel
theorem dX4_waitedAt_24 : decode cX4_waitedAt 24 = .ok (.iconst 0, 1) := by decide +kernel
theorem dX4_waitedAt_25 : decode cX4_waitedAt 25 = .ok (.iload_n 1, 1) := by decide +kernel
theorem dX4_waitedAt_26 : decode cX4_waitedAt 26 = .ok (.aload_n 0, 1) := by decide +kernel
theorem dX4_waitedAt_27 : decode cX4_waitedAt 27 = .ok (.getfield 9, 3) := by decide +kernel
theorem dX4_waitedAt_30 : decode cX4_waitedAt 30 = .ok (.iload 4, 2) := by decide +kernel
theorem dX4_waitedAt_32 : decode cX4_waitedAt 32 = .ok (.iaload, 1) := by decide +kernel
theorem dX4_waitedAt_33 : decode cX4_waitedAt 33 = .ok (.isub, 1) := by decide +kernel
theorem dX4_waitedAt_34 : decode cX4_waitedAt 34 = .ok (.invokestatic 52, 3) := by decide +kernel
theorem dX4_waitedAt_37 : decode cX4_waitedAt 37 = .ok (.iadd, 1) := by decide +kernel
theorem dX4_waitedAt_38 : decode cX4_waitedAt 38 = .ok (.istore_n 3, 1) := by decide +kernel
theorem dX4_waitedAt_39 : decode cX4_waitedAt 39 = .ok (.iinc 4 1, 3) := by decide +kernel
theorem dX4_waitedAt_42 : decode cX4_waitedAt 42 = .ok (.goto (-37), 3) := by decide +kernel
theorem dX4_waitedAt_45 : decode cX4_waitedAt 45 = .ok (.iload_n 3, 1) := by decide +kernel
theorem dX4_waitedAt_46 : decode cX4_waitedAt 46 = .ok (.ireturn, 1) := by decide +kernel
theorem dX5_init_0 : decode cX5_init 0 = .ok (.aload_n 0, 1) := by decide +kernel
theorem dX5_init_1 : decode cX5_init 1 = .ok (.invokespecial 3, 3) := by decide +kernel
theorem dX5_init_4 : decode cX5_init 4 = .ok (.aload_n 0, 1) := by decide +kernel
theorem dX5_init_5 : decode cX5_init 5 = .ok (.iconst 4, 1) := by decide +kernel
theorem dX5_init_6 : decode cX5_init 6 = .ok (.bipush 6, 2) := by decide +kernel
theorem dX5_init_8 : decode cX5_init 8 = .ok (.multianewarray 11 2, 4) := by decide +kernel
theorem dX5_init_12 : decode cX5_init 12 = .ok (.putfield 13, 3) := by decide +kernel
theorem dX5_init_15 : decode cX5_init 15 = .ok (.aload_n 0, 1) := by decide +kernel
theorem dX5_init_16 : decode cX5_init 16 = .ok (.iconst 4, 1) := by decide +kernel
theorem dX5_init_17 : decode cX5_init 17 = .ok (.bipush 6, 2) := by decide +kernel
theorem dX5_init_19 : decode cX5_init 19 = .ok (.multianewarray 11 2, 4) := by decide +kernel
theorem dX5_init_23 : decode cX5_init 23 = .ok (.putfield 16, 3) := by decide +kernel
theorem dX5_init_26 : decode cX5_init 26 = .ok (.aload_n 0, 1) := by decide +kernel
theorem dX5_init_27 : decode cX5_init 27 = .ok (.iconst 4, 1) := by decide +kernel
theorem dX5_init_28 : decode cX5_init 28 = .ok (.newarray .int, 2) := by decide +kernel
theorem dX5_init_30 : decode cX5_init 30 = .ok (.putfield 19, 3) := by decide +kernel
theorem dX5_init_33 : decode cX5_init 33 = .ok (.aload_n 0, 1) := by decide +kernel
theorem dX5_init_34 : decode cX5_init 34 = .ok (.iconst 4, 1) := by decide +kernel
theorem dX5_init_35 : decode cX5_init 35 = .ok (.newarray .int, 2) := by decide +kernel
theorem dX5_init_37 : decode cX5_init 37 = .ok (.putfield 23, 3) := by decide +kernel
theorem dX5_init_40 : decode cX5_init 40 = .ok (.aload_n 0, 1) := by decide +kernel
theorem dX5_init_41 : decode cX5_init 41 = .ok (.iconst 4, 1) := by decide +kernel
theorem dX5_init_42 : decode cX5_init 42 = .ok (.newarray .int, 2) := by decide +kernel
theorem dX5_init_44 : decode cX5_init 44 = .ok (.putfield 26, 3) := by decide +kernel
theorem dX5_init_47 : decode cX5_init 47 = .ok (.aload_n 0, 1) := by decide +kernel
theorem dX5_init_48 : decode cX5_init 48 = .ok (.getfield 23, 3) := by decide +kernel
theorem dX5_init_51 : decode cX5_init 51 = .ok (.sipush 1000, 3) := by decide +kernel
theorem dX5_init_54 : decode cX5_init 54 = .ok (.invokestatic 29, 3) := by decide +kernel
theorem dX5_init_57 : decode cX5_init 57 = .ok (.aload_n 0, 1) := by decide +kernel
theorem dX5_init_58 : decode cX5_init 58 = .ok (.getfield 26, 3) := by decide +kernel
theorem dX5_init_61 : decode cX5_init 61 = .ok (.sipush 1000, 3) := by decide +kernel
theorem dX5_init_64 : decode cX5_init 64 = .ok (.invokestatic 29, 3) := by decide +kernel
theorem dX5_init_67 : decode cX5_init 67 = .ok (.return_, 1) := by decide +kernel
theorem dX5_addKey_0 : decode cX5_addKey 0 = .ok (.aload_n 0, 1) := by decide +kernel
theorem dX5_addKey_1 : decode cX5_addKey 1 = .ok (.getfield 19, 3) := by decide +kernel
theorem dX5_addKey_4 : decode cX5_addKey 4 = .ok (.iload_n 1, 1) := by decide +kernel
theorem dX5_addKey_5 : decode cX5_addKey 5 = .ok (.iaload, 1) := by decide +kernel
theorem dX5_addKey_6 : decode cX5_addKey 6 = .ok (.istore 4, 2) := by decide +kernel
theorem dX5_addKey_8 : decode cX5_addKey 8 = .ok (.iload 4, 2) := by decide +kernel
theorem dX5_addKey_10 : decode cX5_addKey 10 = .ok (.bipush 6, 2) := by decide +kernel
theorem dX5_addKey_12 : decode cX5_addKey 12 = .ok (.if_icmp .lt 5, 3) := by decide +kernel
theorem dX5_addKey_15 : decode cX5_addKey 15 = .ok (.iconst 0, 1) := by decide +kernel
theorem dX5_addKey_16 : decode cX5_addKey 16 = .ok (.ireturn, 1) := by decide +kernel
theorem dX5_addKey_17 : decode cX5_addKey 17 = .ok (.aload_n 0, 1) := by decide +kernel
theorem dX5_addKey_18 : decode cX5_addKey 18 = .ok (.getfield 13, 3) := by decide +kernel
theorem dX5_addKey_21 : decode cX5_addKey 21 = .ok (.iload_n 1, 1) := by decide +kernel
theorem dX5_addKey_22 : decode cX5_addKey 22 = .ok (.aaload, 1) := by decide +kernel
theorem dX5_addKey_23 : decode cX5_addKey 23 = .ok (.iload 4, 2) := by decide +kernel
theorem dX5_addKey_25 : decode cX5_addKey 25 = .ok (.iload_n 2, 1) := by decide +kernel
theorem dX5_addKey_26 : decode cX5_addKey 26 = .ok (.iastore, 1) := by decide +kernel
theorem dX5_addKey_27 : decode cX5_addKey 27 = .ok (.aload_n 0, 1) := by decide +kernel
theorem dX5_addKey_28 : decode cX5_addKey 28 = .ok (.getfield 16, 3) := by decide +kernel
theorem dX5_addKey_31 : decode cX5_addKey 31 = .ok (.iload_n 1, 1) := by decide +kernel
theorem dX5_addKey_32 : decode cX5_addKey 32 = .ok (.aaload, 1) := by decide +kernel
theorem dX5_addKey_33 : decode cX5_addKey 33 = .ok (.iload 4, 2) := by decide +kernel
theorem dX5_addKey_35 : decode cX5_addKey 35 = .ok (.iload_n 3, 1) := by decide +kernel
theorem dX5_addKey_36 : decode cX5_addKey 36 = .ok (.iastore, 1) := by decide +kernel
theorem dX5_addKey_37 : decode cX5_addKey 37 = .ok (.aload_n 0, 1) := by decide +kernel
theorem dX5_addKey_38 : decode cX5_addKey 38 = .ok (.getfield 19, 3) := by decide +kernel
theorem dX5_addKey_41 : decode cX5_addKey 41 = .ok (.iload_n 1, 1) := by decide +kernel
theorem dX5_addKey_42 : decode cX5_addKey 42 = .ok (.iload 4, 2) := by decide +kernel
theorem dX5_addKey_44 : decode cX5_addKey 44 = .ok (.iconst 1, 1) := by decide +kernel
theorem dX5_addKey_45 : decode cX5_addKey 45 = .ok (.iadd, 1) := by decide +kernel
theorem dX5_addKey_46 : decode cX5_addKey 46 = .ok (.iastore, 1) := by decide +kernel
theorem dX5_addKey_47 : decode cX5_addKey 47 = .ok (.iconst 1, 1) := by decide +kernel
theorem dX5_addKey_48 : decode cX5_addKey 48 = .ok (.ireturn, 1) := by decide +kernel
theorem dX5_keyAt_0 : decode cX5_keyAt 0 = .ok (.bipush 100, 2) := by decide +kernel
theorem dX5_keyAt_2 : decode cX5_keyAt 2 = .ok (.iload_n 1, 1) := by decide +kernel
theorem dX5_keyAt_3 : decode cX5_keyAt 3 = .ok (.iadd, 1) := by decide +kernel
theorem dX5_keyAt_4 : decode cX5_keyAt 4 = .ok (.istore_n 3, 1) := by decide +kernel
theorem dX5_keyAt_5 : decode cX5_keyAt 5 = .ok (.iconst 0, 1) := by decide +kernel
theorem dX5_keyAt_6 : decode cX5_keyAt 6 = .ok (.istore 4, 2) := by decide +kernel
theorem dX5_keyAt_8 : decode cX5_keyAt 8 = .ok (.iconst 0, 1) := by decide +kernel
theorem dX5_keyAt_9 : decode cX5_keyAt 9 = .ok (.istore 5, 2) := by decide +kernel
theorem dX5_keyAt_11 : decode cX5_keyAt 11 = .ok (.iload 5, 2) := by decide +kernel
theorem dX5_keyAt_13 : decode cX5_keyAt 13 = .ok (.aload_n 0, 1) := by decide +kernel
theorem dX5_keyAt_14 : decode cX5_keyAt 14 = .ok (.getfield 19, 3) := by decide +kernel
theorem dX5_keyAt_17 : decode cX5_keyAt 17 = .ok (.iload_n 1, 1) := by decide +kernel
theorem dX5_keyAt_18 : decode cX5_keyAt 18 = .ok (.iaload, 1) := by decide +kernel
theorem dX5_keyAt_19 : decode cX5_keyAt 19 = .ok (.if_icmp .ge 47, 3) := by decide +kernel
theorem dX5_keyAt_22 : decode cX5_keyAt 22 = .ok (.aload_n 0, 1) := by decide +kernel
theorem dX5_keyAt_23 : decode cX5_keyAt 23 = .ok (.getfield 13, 3) := by decide +kernel
theorem dX5_keyAt_26 : decode cX5_keyAt 26 = .ok (.iload_n 1, 1) := by decide +kernel
theorem dX5_keyAt_27 : decode cX5_keyAt 27 = .ok (.aaload, 1) := by decide +kernel
theorem dX5_keyAt_28 : decode cX5_keyAt 28 = .ok (.iload 5, 2) := by decide +kernel
theorem dX5_keyAt_30 : decode cX5_keyAt 30 = .ok (.iaload, 1) := by decide +kernel
theorem dX5_keyAt_31 : decode cX5_keyAt 31 = .ok (.istore 6, 2) := by decide +kernel
theorem dX5_keyAt_33 : decode cX5_keyAt 33 = .ok (.iload 6, 2) := by decide +kernel
theorem dX5_keyAt_35 : decode cX5_keyAt 35 = .ok (.iload 4, 2) := by decide +kernel
theorem dX5_keyAt_37 : decode cX5_keyAt 37 = .ok (.if_icmp .lt 23, 3) := by decide +kernel
theorem dX5_keyAt_40 : decode cX5_keyAt 40 = .ok (.iload 6, 2) := by decide +kernel
theorem dX5_keyAt_42 : decode cX5_keyAt 42 = .ok (.iload_n 2, 1) := by decide +kernel
theorem dX5_keyAt_43 : decode cX5_keyAt 43 = .ok (.if_icmp .gt 17, 3) := by decide +kernel
theorem dX5_keyAt_46 : decode cX5_keyAt 46 = .ok (.iload 6, 2) := by decide +kernel
theorem dX5_keyAt_48 : decode cX5_keyAt 48 = .ok (.istore 4, 2) := by decide +kernel
theorem dX5_keyAt_50 : decode cX5_keyAt 50 = .ok (.aload_n 0, 1) := by decide +kernel
theorem dX5_keyAt_51 : decode cX5_keyAt 51 = .ok (.getfield 16, 3) := by decide +kernel
theorem dX5_keyAt_54 : decode cX5_keyAt 54 = .ok (.iload_n 1, 1) := by decide +kernel
theorem dX5_keyAt_55 : decode cX5_keyAt 55 = .ok (.aaload, 1) := by decide +kernel
theorem dX5_keyAt_56 : decode cX5_keyAt 56 = .ok (.iload 5, 2) := by decide +kernel
theorem dX5_keyAt_58 : decode cX5_keyAt 58 = .ok (.iaload, 1) := by decide +kernel
theorem dX5_keyAt_59 : decode cX5_keyAt 59 = .ok (.istore_n 3, 1) := by decide +kernel
theorem dX5_keyAt_60 : decode cX5_keyAt 60 = .ok (.iinc 5 1, 3) := by decide +kernel
theorem dX5_keyAt_63 : decode cX5_keyAt 63 = .ok (.goto (-52), 3) := by decide +kernel
theorem dX5_keyAt_66 : decode cX5_keyAt 66 = .ok (.iload_n 3, 1) := by decide +kernel
theorem dX5_keyAt_67 : decode cX5_keyAt 67 = .ok (.ireturn, 1) := by decide +kernel
theorem dX5_allKeys_0 : decode cX5_allKeys 0 = .ok (.iconst 0, 1) := by decide +kernel
theorem dX5_allKeys_1 : decode cX5_allKeys 1 = .ok (.istore_n 1, 1) := by decide +kernel
theorem dX5_allKeys_2 : decode cX5_allKeys 2 = .ok (.iconst 0, 1) := by decide +kernel
theorem dX5_allKeys_3 : decode cX5_allKeys 3 = .ok (.istore_n 2, 1) := by decide +kernel
theorem dX5_allKeys_4 : decode cX5_allKeys 4 = .ok (.iload_n 2, 1) := by decide +kernel
theorem dX5_allKeys_5 : decode cX5_allKeys 5 = .ok (.iconst 4, 1) := by decide +kernel
theorem dX5_allKeys_6 : decode cX5_allKeys 6 = .ok (.if_icmp .ge 18, 3) := by decide +kernel
theorem dX5_allKeys_9 : decode cX5_allKeys 9 = .ok (.iload_n 1, 1) := by decide +kernel
theorem dX5_allKeys_10 : decode cX5_allKeys 10 = .ok (.aload_n 0, 1) := by decide +kernel
theorem dX5_allKeys_11 : decode cX5_allKeys 11 = .ok (.getfield 19, 3) := by decide +kernel
theorem dX5_allKeys_14 : decode cX5_allKeys 14 = .ok (.iload_n 2, 1) := by decide +kernel
theorem dX5_allKeys_15 : decode cX5_allKeys 15 = .ok (.iaload, 1) := by decide +kernel
theorem dX5_allKeys_16 : decode cX5_allKeys 16 = .ok (.iadd, 1) := by decide +kernel
theorem dX5_allKeys_17 : decode cX5_allKeys 17 = .ok (.istore_n 1, 1) := by decide +kernel
theorem dX5_allKeys_18 : decode cX5_allKeys 18 = .ok (.iinc 2 1, 3) := by decide +kernel
theorem dX5_allKeys_21 : decode cX5_allKeys 21 = .ok (.goto (-17), 3) := by decide +kernel
theorem dX5_allKeys_24 : decode cX5_allKeys 24 = .ok (.iload_n 1, 1) := by decide +kernel
theorem dX5_allKeys_25 : decode cX5_allKeys 25 = .ok (.ireturn, 1) := by decide +kernel
theorem dX6_init_0 : decode cX6_init 0 = .ok (.aload_n 0, 1) := by decide +kernel
theorem dX6_init_1 : decode cX6_init 1 = .ok (.invokespecial 3, 3) := by decide +kernel
theorem dX6_init_4 : decode cX6_init 4 = .ok (.aload_n 0, 1) := by decide +kernel
theorem dX6_init_5 : decode cX6_init 5 = .ok (.iconst 4, 1) := by decide +kernel
theorem dX6_init_6 : decode cX6_init 6 = .ok (.newarray .int, 2) := by decide +kernel
theorem dX6_init_8 : decode cX6_init 8 = .ok (.putfield 9, 3) := by decide +kernel
theorem dX6_init_11 : decode cX6_init 11 = .ok (.aload_n 0, 1) := by decide +kernel
theorem dX6_init_12 : decode cX6_init 12 = .ok (.sipush 1000, 3) := by decide +kernel
theorem dX6_init_15 : decode cX6_init 15 = .ok (.putfield 15, 3) := by decide +kernel
theorem dX6_init_18 : decode cX6_init 18 = .ok (.aload_n 0, 1) := by decide +kernel
theorem dX6_init_19 : decode cX6_init 19 = .ok (.iload_n 1, 1) := by decide +kernel
theorem dX6_init_20 : decode cX6_init 20 = .ok (.putfield 19, 3) := by decide +kernel
theorem dX6_init_23 : decode cX6_init 23 = .ok (.aload_n 0, 1) := by decide +kernel
theorem dX6_init_24 : decode cX6_init 24 = .ok (.aload_n 2, 1) := by decide +kernel
theorem dX6_init_25 : decode cX6_init 25 = .ok (.iload_n 3, 1) := by decide +kernel
theorem dX6_init_26 : decode cX6_init 26 = .ok (.iaload, 1) := by decide +kernel
theorem dX6_init_27 : decode cX6_init 27 = .ok (.putfield 22, 3) := by decide +kernel
theorem dX6_init_30 : decode cX6_init 30 = .ok (.aload_n 0, 1) := by decide +kernel
theorem dX6_init_31 : decode cX6_init 31 = .ok (.aload_n 2, 1) := by decide +kernel
theorem dX6_init_32 : decode cX6_init 32 = .ok (.iload_n 3, 1) := by decide +kernel
theorem dX6_init_33 : decode cX6_init 33 = .ok (.iconst 1, 1) := by decide +kernel
theorem dX6_init_34 : decode cX6_init 34 = .ok (.iadd, 1) := by decide +kernel
theorem dX6_init_35 : decode cX6_init 35 = .ok (.iaload, 1) := by decide +kernel
theorem dX6_init_36 : decode cX6_init 36 = .ok (.putfield 25, 3) := by decide +kernel
theorem dX6_init_39 : decode cX6_init 39 = .ok (.aload_n 0, 1) := by decide +kernel
theorem dX6_init_40 : decode cX6_init 40 = .ok (.aload_n 2, 1) := by decide +kernel
theorem dX6_init_41 : decode cX6_init 41 = .ok (.iload_n 3, 1) := by decide +kernel
theorem dX6_init_42 : decode cX6_init 42 = .ok (.iconst 2, 1) := by decide +kernel
theorem dX6_init_43 : decode cX6_init 43 = .ok (.iadd, 1) := by decide +kernel
theorem dX6_init_44 : decode cX6_init 44 = .ok (.iaload, 1) := by decide +kernel
theorem dX6_init_45 : decode cX6_init 45 = .ok (.putfield 28, 3) := by decide +kernel
theorem dX6_init_48 : decode cX6_init 48 = .ok (.aload_n 0, 1) := by decide +kernel
theorem dX6_init_49 : decode cX6_init 49 = .ok (.aload_n 2, 1) := by decide +kernel
theorem dX6_init_50 : decode cX6_init 50 = .ok (.iload_n 3, 1) := by decide +kernel
theorem dX6_init_51 : decode cX6_init 51 = .ok (.iconst 3, 1) := by decide +kernel
theorem dX6_init_52 : decode cX6_init 52 = .ok (.iadd, 1) := by decide +kernel
theorem dX6_init_53 : decode cX6_init 53 = .ok (.iaload, 1) := by decide +kernel
theorem dX6_init_54 : decode cX6_init 54 = .ok (.putfield 31, 3) := by decide +kernel
theorem dX6_init_57 : decode cX6_init 57 = .ok (.aload_n 0, 1) := by decide +kernel
theorem dX6_init_58 : decode cX6_init 58 = .ok (.aload_n 2, 1) := by decide +kernel
theorem dX6_init_59 : decode cX6_init 59 = .ok (.iload_n 3, 1) := by decide +kernel
theorem dX6_init_60 : decode cX6_init 60 = .ok (.iconst 4, 1) := by decide +kernel
theorem dX6_init_61 : decode cX6_init 61 = .ok (.iadd, 1) := by decide +kernel
theorem dX6_init_62 : decode cX6_init 62 = .ok (.iaload, 1) := by decide +kernel
theorem dX6_init_63 : decode cX6_init 63 = .ok (.putfield 34, 3) := by decide +kernel
theorem dX6_init_66 : decode cX6_init 66 = .ok (.aload_n 2, 1) := by decide +kernel
theorem dX6_init_67 : decode cX6_init 67 = .ok (.iload_n 3, 1) := by decide +kernel
theorem dX6_init_68 : decode cX6_init 68 = .ok (.iconst 5, 1) := by decide +kernel
theorem dX6_init_69 : decode cX6_init 69 = .ok (.iadd, 1) := by decide +kernel
theorem dX6_init_70 : decode cX6_init 70 = .ok (.aload_n 0, 1) := by decide +kernel
theorem dX6_init_71 : decode cX6_init 71 = .ok (.getfield 9, 3) := by decide +kernel
theorem dX6_init_74 : decode cX6_init 74 = .ok (.iconst 0, 1) := by decide +kernel
theorem dX6_init_75 : decode cX6_init 75 = .ok (.iconst 4, 1) := by decide +kernel
theorem dX6_init_76 : decode cX6_init 76 = .ok (.invokestatic 37, 3) := by decide +kernel
theorem dX6_init_79 : decode cX6_init 79 = .ok (.return_, 1) := by decide +kernel
theorem dX6_isTold_0 : decode cX6_isTold 0 = .ok (.iconst 0, 1) := by decide +kernel
theorem dX6_isTold_1 : decode cX6_isTold 1 = .ok (.istore_n 2, 1) := by decide +kernel
theorem dX6_isTold_2 : decode cX6_isTold 2 = .ok (.iload_n 2, 1) := by decide +kernel
theorem dX6_isTold_3 : decode cX6_isTold 3 = .ok (.bipush 9, 2) := by decide +kernel
theorem dX6_isTold_5 : decode cX6_isTold 5 = .ok (.if_icmp .ge 28, 3) := by decide +kernel
theorem dX6_isTold_8 : decode cX6_isTold 8 = .ok (.aload_n 0, 1) := by decide +kernel
theorem dX6_isTold_9 : decode cX6_isTold 9 = .ok (.iload_n 1, 1) := by decide +kernel
theorem dX6_isTold_10 : decode cX6_isTold 10 = .ok (.iload_n 2, 1) := by decide +kernel
theorem dX6_isTold_11 : decode cX6_isTold 11 = .ok (.iadd, 1) := by decide +kernel
theorem dX6_isTold_12 : decode cX6_isTold 12 = .ok (.iaload, 1) := by decide +kernel
theorem dX6_isTold_13 : decode cX6_isTold 13 = .ok (.iconst 0, 1) := by decide +kernel
theorem dX6_isTold_14 : decode cX6_isTold 14 = .ok (.getstatic 43, 3) := by decide +kernel
theorem dX6_isTold_17 : decode cX6_isTold 17 = .ok (.iload_n 2, 1) := by decide +kernel
theorem dX6_isTold_18 : decode cX6_isTold 18 = .ok (.iaload, 1) := by decide +kernel
theorem dX6_isTold_19 : decode cX6_isTold 19 = .ok (.invokestatic 46, 3) := by decide +kernel
theorem dX6_isTold_22 : decode cX6_isTold 22 = .ok (.ifCond .ne 5, 3) := by decide +kernel
theorem dX6_isTold_25 : decode cX6_isTold 25 = .ok (.iconst 0, 1) := by decide +kernel
theorem dX6_isTold_26 : decode cX6_isTold 26 = .ok (.ireturn, 1) := by decide +kernel
theorem dX6_isTold_27 : decode cX6_isTold 27 = .ok (.iinc 2 1, 3) := by decide +kernel
theorem dX6_isTold_30 : decode cX6_isTold 30 = .ok (.goto (-28), 3) := by decide +kernel
theorem dX6_isTold_33 : decode cX6_isTold 33 = .ok (.aload_n 0, 1) := by decide +kernel
theorem dX6_isTold_34 : decode cX6_isTold 34 = .ok (.iload_n 1, 1) := by decide +kernel
theorem dX6_isTold_35 : decode cX6_isTold 35 = .ok (.iconst 3, 1) := by decide +kernel
theorem dX6_isTold_36 : decode cX6_isTold 36 = .ok (.iadd, 1) := by decide +kernel
theorem dX6_isTold_37 : decode cX6_isTold 37 = .ok (.iaload, 1) := by decide +kernel
theorem dX6_isTold_38 : decode cX6_isTold 38 = .ok (.aload_n 0, 1) := by decide +kernel
theorem dX6_isTold_39 : decode cX6_isTold 39 = .ok (.iload_n 1, 1) := by decide +kernel
theorem dX6_isTold_40 : decode cX6_isTold 40 = .ok (.iconst 4, 1) := by decide +kernel
theorem dX6_isTold_41 : decode cX6_isTold 41 = .ok (.iadd, 1) := by decide +kernel
theorem dX6_isTold_42 : decode cX6_isTold 42 = .ok (.iaload, 1) := by decide +kernel
theorem dX6_isTold_43 : decode cX6_isTold 43 = .ok (.if_icmp .gt 7, 3) := by decide +kernel
theorem dX6_isTold_46 : decode cX6_isTold 46 = .ok (.iconst 1, 1) := by decide +kernel
theorem dX6_isTold_47 : decode cX6_isTold 47 = .ok (.goto 4, 3) := by decide +kernel
theorem dX6_isTold_50 : decode cX6_isTold 50 = .ok (.iconst 0, 1) := by decide +kernel
theorem dX6_isTold_51 : decode cX6_isTold 51 = .ok (.ireturn, 1) := by decide +kernel
theorem dX6_leafWith_0 : decode cX6_leafWith 0 = .ok (.bipush 31, 2) := by decide +kernel
theorem dX6_leafWith_2 : decode cX6_leafWith 2 = .ok (.iload_n 2, 1) := by decide +kernel
theorem dX6_leafWith_3 : decode cX6_leafWith 3 = .ok (.imul, 1) := by decide +kernel
theorem dX6_leafWith_4 : decode cX6_leafWith 4 = .ok (.bipush 7, 2) := by decide +kernel
theorem dX6_leafWith_6 : decode cX6_leafWith 6 = .ok (.aload_n 0, 1) := by decide +kernel
theorem dX6_leafWith_7 : decode cX6_leafWith 7 = .ok (.getfield 19, 3) := by decide +kernel
theorem dX6_leafWith_10 : decode cX6_leafWith 10 = .ok (.imul, 1) := by decide +kernel
theorem dX6_leafWith_11 : decode cX6_leafWith 11 = .ok (.iadd, 1) := by decide +kernel
theorem dX6_leafWith_12 : decode cX6_leafWith 12 = .ok (.iload_n 1, 1) := by decide +kernel
theorem dX6_leafWith_13 : decode cX6_leafWith 13 = .ok (.iadd, 1) := by decide +kernel
theorem dX6_leafWith_14 : decode cX6_leafWith 14 = .ok (.ldc 50, 2) := by decide +kernel
theorem dX6_leafWith_16 : decode cX6_leafWith 16 = .ok (.irem, 1) := by decide +kernel
theorem dX6_leafWith_17 : decode cX6_leafWith 17 = .ok (.ireturn, 1) := by decide +kernel
theorem dX6_leaf_0 : decode cX6_leaf 0 = .ok (.aload_n 0, 1) := by decide +kernel
theorem dX6_leaf_1 : decode cX6_leaf 1 = .ok (.iload_n 1, 1) := by decide +kernel
theorem dX6_leaf_2 : decode cX6_leaf 2 = .ok (.aload_n 0, 1) := by decide +kernel
theorem dX6_leaf_3 : decode cX6_leaf 3 = .ok (.getfield 9, 3) := by decide +kernel
theorem dX6_leaf_6 : decode cX6_leaf 6 = .ok (.iload_n 1, 1) := by decide +kernel
theorem dX6_leaf_7 : decode cX6_leaf 7 = .ok (.iaload, 1) := by decide +kernel
theorem dX6_leaf_8 : decode cX6_leaf 8 = .ok (.invokevirtual 51, 3) := by decide +kernel
theorem dX6_leaf_11 : decode cX6_leaf 11 = .ok (.ireturn, 1) := by decide +kernel
theorem dX6_half_0 : decode cX6_half 0 = .ok (.aload_n 0, 1) := by decide +kernel
theorem dX6_half_1 : decode cX6_half 1 = .ok (.iconst 2, 1) := by decide +kernel
theorem dX6_half_2 : decode cX6_half 2 = .ok (.iload_n 1, 1) := by decide +kernel
theorem dX6_half_3 : decode cX6_half 3 = .ok (.imul, 1) := by decide +kernel
theorem dX6_half_4 : decode cX6_half 4 = .ok (.invokevirtual 55, 3) := by decide +kernel
theorem dX6_half_7 : decode cX6_half 7 = .ok (.aload_n 0, 1) := by decide +kernel
theorem dX6_half_8 : decode cX6_half 8 = .ok (.iconst 2, 1) := by decide +kernel
theorem dX6_half_9 : decode cX6_half 9 = .ok (.iload_n 1, 1) := by decide +kernel
theorem dX6_half_10 : decode cX6_half 10 = .ok (.imul, 1) := by decide +kernel
theorem dX6_half_11 : decode cX6_half 11 = .ok (.iconst 1, 1) := by decide +kernel
theorem dX6_half_12 : decode cX6_half 12 = .ok (.iadd, 1) := by decide +kernel
theorem dX6_half_13 : decode cX6_half 13 = .ok (.invokevirtual 55, 3) := by decide +kernel
theorem dX6_half_16 : decode cX6_half 16 = .ok (.invokestatic 59, 3) := by decide +kernel
theorem dX6_half_19 : decode cX6_half 19 = .ok (.ireturn, 1) := by decide +kernel
theorem dX6_root_0 : decode cX6_root 0 = .ok (.aload_n 0, 1) := by decide +kernel
theorem dX6_root_1 : decode cX6_root 1 = .ok (.iconst 0, 1) := by decide +kernel
theorem dX6_root_2 : decode cX6_root 2 = .ok (.invokevirtual 62, 3) := by decide +kernel
theorem dX6_root_5 : decode cX6_root 5 = .ok (.aload_n 0, 1) := by decide +kernel
theorem dX6_root_6 : decode cX6_root 6 = .ok (.iconst 1, 1) := by decide +kernel
theorem dX6_root_7 : decode cX6_root 7 = .ok (.invokevirtual 62, 3) := by decide +kernel
theorem dX6_root_10 : decode cX6_root 10 = .ok (.invokestatic 59, 3) := by decide +kernel
theorem dX6_root_13 : decode cX6_root 13 = .ok (.ireturn, 1) := by decide +kernel
theorem dX6_rootWith_0 : decode cX6_rootWith 0 = .ok (.aload_n 0, 1) := by decide +kernel
theorem dX6_rootWith_1 : decode cX6_rootWith 1 = .ok (.iload_n 1, 1) := by decide +kernel
theorem dX6_rootWith_2 : decode cX6_rootWith 2 = .ok (.iload_n 2, 1) := by decide +kernel
theorem dX6_rootWith_3 : decode cX6_rootWith 3 = .ok (.invokevirtual 51, 3) := by decide +kernel
theorem dX6_rootWith_6 : decode cX6_rootWith 6 = .ok (.istore_n 3, 1) := by decide +kernel
theorem dX6_rootWith_7 : decode cX6_rootWith 7 = .ok (.iload_n 1, 1) := by decide +kernel
theorem dX6_rootWith_8 : decode cX6_rootWith 8 = .ok (.tableswitch 82 0 2 #[28, 46, 64], 28) := by decide +kernel
theorem dX6_rootWith_36 : decode cX6_rootWith 36 = .ok (.iload_n 3, 1) := by decide +kernel
theorem dX6_rootWith_37 : decode cX6_rootWith 37 = .ok (.aload_n 0, 1) := by decide +kernel
theorem dX6_rootWith_38 : decode cX6_rootWith 38 = .ok (.iconst 1, 1) := by decide +kernel
theorem dX6_rootWith_39 : decode cX6_rootWith 39 = .ok (.invokevirtual 55, 3) := by decide +kernel
theorem dX6_rootWith_42 : decode cX6_rootWith 42 = .ok (.invokestatic 59, 3) := by decide +kernel
theorem dX6_rootWith_45 : decode cX6_rootWith 45 = .ok (.aload_n 0, 1) := by decide +kernel
theorem dX6_rootWith_46 : decode cX6_rootWith 46 = .ok (.iconst 1, 1) := by decide +kernel
theorem dX6_rootWith_47 : decode cX6_rootWith 47 = .ok (.invokevirtual 62, 3) := by decide +kernel
theorem dX6_rootWith_50 : decode cX6_rootWith 50 = .ok (.invokestatic 59, 3) := by decide +kernel
theorem dX6_rootWith_53 : decode cX6_rootWith 53 = .ok (.ireturn, 1) := by decide +kernel
theorem dX6_rootWith_54 : decode cX6_rootWith 54 = .ok (.aload_n 0, 1) := by decide +kernel
theorem dX6_rootWith_55 : decode cX6_rootWith 55 = .ok (.iconst 0, 1) := by decide +kernel
theorem dX6_rootWith_56 : decode cX6_rootWith 56 = .ok (.invokevirtual 55, 3) := by decide +kernel
theorem dX6_rootWith_59 : decode cX6_rootWith 59 = .ok (.iload_n 3, 1) := by decide +kernel
theorem dX6_rootWith_60 : decode cX6_rootWith 60 = .ok (.invokestatic 59, 3) := by decide +kernel
theorem dX6_rootWith_63 : decode cX6_rootWith 63 = .ok (.aload_n 0, 1) := by decide +kernel
theorem dX6_rootWith_64 : decode cX6_rootWith 64 = .ok (.iconst 1, 1) := by decide +kernel
theorem dX6_rootWith_65 : decode cX6_rootWith 65 = .ok (.invokevirtual 62, 3) := by decide +kernel
theorem dX6_rootWith_68 : decode cX6_rootWith 68 = .ok (.invokestatic 59, 3) := by decide +kernel
theorem dX6_rootWith_71 : decode cX6_rootWith 71 = .ok (.ireturn, 1) := by decide +kernel
theorem dX6_rootWith_72 : decode cX6_rootWith 72 = .ok (.aload_n 0, 1) := by decide +kernel
theorem dX6_rootWith_73 : decode cX6_rootWith 73 = .ok (.iconst 0, 1) := by decide +kernel
theorem dX6_rootWith_74 : decode cX6_rootWith 74 = .ok (.invokevirtual 62, 3) := by decide +kernel
theorem dX6_rootWith_77 : decode cX6_rootWith 77 = .ok (.iload_n 3, 1) := by decide +kernel
theorem dX6_rootWith_78 : decode cX6_rootWith 78 = .ok (.aload_n 0, 1) := by decide +kernel
theorem dX6_rootWith_79 : decode cX6_rootWith 79 = .ok (.iconst 3, 1) := by decide +kernel
theorem dX6_rootWith_80 : decode cX6_rootWith 80 = .ok (.invokevirtual 55, 3) := by decide +kernel
theorem dX6_rootWith_83 : decode cX6_rootWith 83 = .ok (.invokestatic 59, 3) := by decide +kernel
theorem dX6_rootWith_86 : decode cX6_rootWith 86 = .ok (.invokestatic 59, 3) := by decide +kernel
theorem dX6_rootWith_89 : decode cX6_rootWith 89 = .ok (.ireturn, 1) := by decide +kernel
theorem dX6_rootWith_90 : decode cX6_rootWith 90 = .ok (.aload_n 0, 1) := by decide +kernel
theorem dX6_rootWith_91 : decode cX6_rootWith 91 = .ok (.iconst 0, 1) := by decide +kernel
theorem dX6_rootWith_92 : decode cX6_rootWith 92 = .ok (.invokevirtual 62, 3) := by decide +kernel
theorem dX6_rootWith_95 : decode cX6_rootWith 95 = .ok (.aload_n 0, 1) := by decide +kernel
theorem dX6_rootWith_96 : decode cX6_rootWith 96 = .ok (.iconst 2, 1) := by decide +kernel
theorem dX6_rootWith_97 : decode cX6_rootWith 97 = .ok (.invokevirtual 55, 3) := by decide +kernel
theorem dX6_rootWith_100 : decode cX6_rootWith 100 = .ok (.iload_n 3, 1) := by decide +kernel
theorem dX6_rootWith_101 : decode cX6_rootWith 101 = .ok (.invokestatic 59, 3) := by decide +kernel
theorem dX6_rootWith_104 : decode cX6_rootWith 104 = .ok (.invokestatic 59, 3) := by decide +kernel
theorem dX6_rootWith_107 : decode cX6_rootWith 107 = .ok (.ireturn, 1) := by decide +kernel
theorem dX6_showsOfHalf_0 : decode cX6_showsOfHalf 0 = .ok (.iload_n 0, 1) := by decide +kernel
theorem dX6_showsOfHalf_1 : decode cX6_showsOfHalf 1 = .ok (.iconst 2, 1) := by decide +kernel
theorem dX6_showsOfHalf_2 : decode cX6_showsOfHalf 2 = .ok (.iload_n 1, 1) := by decide +kernel
theorem dX6_showsOfHalf_3 : decode cX6_showsOfHalf 3 = .ok (.imul, 1) := by decide +kernel
theorem dX6_showsOfHalf_4 : decode cX6_showsOfHalf 4 = .ok (.ishr, 1) := by decide +kernel
theorem dX6_showsOfHalf_5 : decode cX6_showsOfHalf 5 = .ok (.iconst 3, 1) := by decide +kernel
theorem dX6_showsOfHalf_6 : decode cX6_showsOfHalf 6 = .ok (.iand, 1) := by decide +kernel
theorem dX6_showsOfHalf_7 : decode cX6_showsOfHalf 7 = .ok (.ifCond .eq 7, 3) := by decide +kernel
theorem dX6_showsOfHalf_10 : decode cX6_showsOfHalf 10 = .ok (.iconst 1, 1) := by decide +kernel
theorem dX6_showsOfHalf_11 : decode cX6_showsOfHalf 11 = .ok (.goto 4, 3) := by decide +kernel
theorem dX6_showsOfHalf_14 : decode cX6_showsOfHalf 14 = .ok (.iconst 0, 1) := by decide +kernel
theorem dX6_showsOfHalf_15 : decode cX6_showsOfHalf 15 = .ok (.ireturn, 1) := by decide +kernel
theorem dX6_halfSize_0 : decode cX6_halfSize 0 = .ok (.iload_n 0, 1) := by decide +kernel
theorem dX6_halfSize_1 : decode cX6_halfSize 1 = .ok (.iload_n 1, 1) := by decide +kernel
theorem dX6_halfSize_2 : decode cX6_halfSize 2 = .ok (.invokestatic 65, 3) := by decide +kernel
theorem dX6_halfSize_5 : decode cX6_halfSize 5 = .ok (.ifCond .eq 7, 3) := by decide +kernel
theorem dX6_halfSize_8 : decode cX6_halfSize 8 = .ok (.iconst 2, 1) := by decide +kernel
theorem dX6_halfSize_9 : decode cX6_halfSize 9 = .ok (.goto 4, 3) := by decide +kernel
theorem dX6_halfSize_12 : decode cX6_halfSize 12 = .ok (.iconst 1, 1) := by decide +kernel
theorem dX6_halfSize_13 : decode cX6_halfSize 13 = .ok (.ireturn, 1) := by decide +kernel
theorem dX6_showingSize_0 : decode cX6_showingSize 0 = .ok (.iload_n 0, 1) := by decide +kernel
theorem dX6_showingSize_1 : decode cX6_showingSize 1 = .ok (.iconst 0, 1) := by decide +kernel
theorem dX6_showingSize_2 : decode cX6_showingSize 2 = .ok (.invokestatic 69, 3) := by decide +kernel
theorem dX6_showingSize_5 : decode cX6_showingSize 5 = .ok (.iload_n 0, 1) := by decide +kernel
theorem dX6_showingSize_6 : decode cX6_showingSize 6 = .ok (.iconst 1, 1) := by decide +kernel
theorem dX6_showingSize_7 : decode cX6_showingSize 7 = .ok (.invokestatic 69, 3) := by decide +kernel
theorem dX6_showingSize_10 : decode cX6_showingSize 10 = .ok (.iadd, 1) := by decide +kernel
theorem dX6_showingSize_11 : decode cX6_showingSize 11 = .ok (.ireturn, 1) := by decide +kernel
theorem dX6_fillShowing_0 : decode cX6_fillShowing 0 = .ok (.iconst 0, 1) := by decide +kernel
theorem dX6_fillShowing_1 : decode cX6_fillShowing 1 = .ok (.istore_n 3, 1) := by decide +kernel
theorem dX6_fillShowing_2 : decode cX6_fillShowing 2 = .ok (.iconst 0, 1) := by decide +kernel
theorem dX6_fillShowing_3 : decode cX6_fillShowing 3 = .ok (.istore 4, 2) := by decide +kernel
theorem dX6_fillShowing_5 : decode cX6_fillShowing 5 = .ok (.iload 4, 2) := by decide +kernel
theorem dX6_fillShowing_7 : decode cX6_fillShowing 7 = .ok (.iconst 2, 1) := by decide +kernel
theorem dX6_fillShowing_8 : decode cX6_fillShowing 8 = .ok (.if_icmp .ge 67, 3) := by decide +kernel
theorem dX6_fillShowing_11 : decode cX6_fillShowing 11 = .ok (.iload_n 1, 1) := by decide +kernel
theorem dX6_fillShowing_12 : decode cX6_fillShowing 12 = .ok (.iload 4, 2) := by decide +kernel
theorem dX6_fillShowing_14 : decode cX6_fillShowing 14 = .ok (.invokestatic 65, 3) := by decide +kernel
theorem dX6_fillShowing_17 : decode cX6_fillShowing 17 = .ok (.ifCond .eq 34, 3) := by decide +kernel
theorem dX6_fillShowing_20 : decode cX6_fillShowing 20 = .ok (.aload_n 2, 1) := by decide +kernel
theorem dX6_fillShowing_21 : decode cX6_fillShowing 21 = .ok (.iload_n 3, 1) := by decide +kernel
theorem dX6_fillShowing_22 : decode cX6_fillShowing 22 = .ok (.aload_n 0, 1) := by decide +kernel
theorem dX6_fillShowing_23 : decode cX6_fillShowing 23 = .ok (.iload_n 1, 1) := by decide +kernel
theorem dX6_fillShowing_24 : decode cX6_fillShowing 24 = .ok (.iconst 2, 1) := by decide +kernel
theorem dX6_fillShowing_25 : decode cX6_fillShowing 25 = .ok (.iload 4, 2) := by decide +kernel
theorem dX6_fillShowing_27 : decode cX6_fillShowing 27 = .ok (.imul, 1) := by decide +kernel
theorem dX6_fillShowing_28 : decode cX6_fillShowing 28 = .ok (.invokevirtual 72, 3) := by decide +kernel
theorem dX6_fillShowing_31 : decode cX6_fillShowing 31 = .ok (.iastore, 1) := by decide +kernel
theorem dX6_fillShowing_32 : decode cX6_fillShowing 32 = .ok (.aload_n 2, 1) := by decide +kernel
theorem dX6_fillShowing_33 : decode cX6_fillShowing 33 = .ok (.iload_n 3, 1) := by decide +kernel
theorem dX6_fillShowing_34 : decode cX6_fillShowing 34 = .ok (.iconst 1, 1) := by decide +kernel
theorem dX6_fillShowing_35 : decode cX6_fillShowing 35 = .ok (.iadd, 1) := by decide +kernel
theorem dX6_fillShowing_36 : decode cX6_fillShowing 36 = .ok (.aload_n 0, 1) := by decide +kernel
theorem dX6_fillShowing_37 : decode cX6_fillShowing 37 = .ok (.iload_n 1, 1) := by decide +kernel
theorem dX6_fillShowing_38 : decode cX6_fillShowing 38 = .ok (.iconst 2, 1) := by decide +kernel
theorem dX6_fillShowing_39 : decode cX6_fillShowing 39 = .ok (.iload 4, 2) := by decide +kernel
theorem dX6_fillShowing_41 : decode cX6_fillShowing 41 = .ok (.imul, 1) := by decide +kernel
theorem dX6_fillShowing_42 : decode cX6_fillShowing 42 = .ok (.iconst 1, 1) := by decide +kernel
theorem dX6_fillShowing_43 : decode cX6_fillShowing 43 = .ok (.iadd, 1) := by decide +kernel
theorem dX6_fillShowing_44 : decode cX6_fillShowing 44 = .ok (.invokevirtual 72, 3) := by decide +kernel
theorem dX6_fillShowing_47 : decode cX6_fillShowing 47 = .ok (.iastore, 1) := by decide +kernel
theorem dX6_fillShowing_48 : decode cX6_fillShowing 48 = .ok (.goto 12, 3) := by decide +kernel
theorem dX6_fillShowing_51 : decode cX6_fillShowing 51 = .ok (.aload_n 2, 1) := by decide +kernel
theorem dX6_fillShowing_52 : decode cX6_fillShowing 52 = .ok (.iload_n 3, 1) := by decide +kernel
theorem dX6_fillShowing_53 : decode cX6_fillShowing 53 = .ok (.aload_n 0, 1) := by decide +kernel
theorem dX6_fillShowing_54 : decode cX6_fillShowing 54 = .ok (.iload 4, 2) := by decide +kernel
theorem dX6_fillShowing_56 : decode cX6_fillShowing 56 = .ok (.invokevirtual 62, 3) := by decide +kernel
theorem dX6_fillShowing_59 : decode cX6_fillShowing 59 = .ok (.iastore, 1) := by decide +kernel
theorem dX6_fillShowing_60 : decode cX6_fillShowing 60 = .ok (.iload_n 3, 1) := by decide +kernel
theorem dX6_fillShowing_61 : decode cX6_fillShowing 61 = .ok (.iload_n 1, 1) := by decide +kernel
theorem dX6_fillShowing_62 : decode cX6_fillShowing 62 = .ok (.iload 4, 2) := by decide +kernel
theorem dX6_fillShowing_64 : decode cX6_fillShowing 64 = .ok (.invokestatic 69, 3) := by decide +kernel
theorem dX6_fillShowing_67 : decode cX6_fillShowing 67 = .ok (.iadd, 1) := by decide +kernel
theorem dX6_fillShowing_68 : decode cX6_fillShowing 68 = .ok (.istore_n 3, 1) := by decide +kernel
theorem dX6_fillShowing_69 : decode cX6_fillShowing 69 = .ok (.iinc 4 1, 3) := by decide +kernel
theorem dX6_fillShowing_72 : decode cX6_fillShowing 72 = .ok (.goto (-67), 3) := by decide +kernel
theorem dX6_fillShowing_75 : decode cX6_fillShowing 75 = .ok (.iload_n 3, 1) := by decide +kernel
theorem dX6_fillShowing_76 : decode cX6_fillShowing 76 = .ok (.ireturn, 1) := by decide +kernel
theorem dX6_shownOf_0 : decode cX6_shownOf 0 = .ok (.iload_n 1, 1) := by decide +kernel
theorem dX6_shownOf_1 : decode cX6_shownOf 1 = .ok (.iload_n 2, 1) := by decide +kernel
theorem dX6_shownOf_2 : decode cX6_shownOf 2 = .ok (.invokestatic 75, 3) := by decide +kernel
theorem dX6_shownOf_5 : decode cX6_shownOf 5 = .ok (.ifCond .eq 12, 3) := by decide +kernel
theorem dX6_shownOf_8 : decode cX6_shownOf 8 = .ok (.aload_n 0, 1) := by decide +kernel
theorem dX6_shownOf_9 : decode cX6_shownOf 9 = .ok (.getfield 9, 3) := by decide +kernel
theorem dX6_shownOf_12 : decode cX6_shownOf 12 = .ok (.iload_n 2, 1) := by decide +kernel
theorem dX6_shownOf_13 : decode cX6_shownOf 13 = .ok (.iaload, 1) := by decide +kernel
theorem dX6_shownOf_14 : decode cX6_shownOf 14 = .ok (.goto 8, 3) := by decide +kernel
theorem dX6_shownOf_17 : decode cX6_shownOf 17 = .ok (.aload_n 0, 1) := by decide +kernel
theorem dX6_shownOf_18 : decode cX6_shownOf 18 = .ok (.iload_n 2, 1) := by decide +kernel
theorem dX6_shownOf_19 : decode cX6_shownOf 19 = .ok (.invokevirtual 55, 3) := by decide +kernel
theorem dX6_shownOf_22 : decode cX6_shownOf 22 = .ok (.ireturn, 1) := by decide +kernel
theorem dX6_rootOfShowing_0 : decode cX6_rootOfShowing 0 = .ok (.aload_n 0, 1) := by decide +kernel
theorem dX6_rootOfShowing_1 : decode cX6_rootOfShowing 1 = .ok (.iload_n 1, 1) := by decide +kernel
theorem dX6_rootOfShowing_2 : decode cX6_rootOfShowing 2 = .ok (.iconst 0, 1) := by decide +kernel
theorem dX6_rootOfShowing_3 : decode cX6_rootOfShowing 3 = .ok (.aload_n 2, 1) := by decide +kernel
theorem dX6_rootOfShowing_4 : decode cX6_rootOfShowing 4 = .ok (.iload_n 3, 1) := by decide +kernel
theorem dX6_rootOfShowing_5 : decode cX6_rootOfShowing 5 = .ok (.invokevirtual 78, 3) := by decide +kernel
theorem dX6_rootOfShowing_8 : decode cX6_rootOfShowing 8 = .ok (.istore 4, 2) := by decide +kernel
theorem dX6_rootOfShowing_10 : decode cX6_rootOfShowing 10 = .ok (.aload_n 0, 1) := by decide +kernel
theorem dX6_rootOfShowing_11 : decode cX6_rootOfShowing 11 = .ok (.iload_n 1, 1) := by decide +kernel
theorem dX6_rootOfShowing_12 : decode cX6_rootOfShowing 12 = .ok (.iconst 1, 1) := by decide +kernel
theorem dX6_rootOfShowing_13 : decode cX6_rootOfShowing 13 = .ok (.aload_n 2, 1) := by decide +kernel
theorem dX6_rootOfShowing_14 : decode cX6_rootOfShowing 14 = .ok (.iload_n 3, 1) := by decide +kernel
theorem dX6_rootOfShowing_15 : decode cX6_rootOfShowing 15 = .ok (.iload_n 1, 1) := by decide +kernel
theorem dX6_rootOfShowing_16 : decode cX6_rootOfShowing 16 = .ok (.iconst 0, 1) := by decide +kernel
theorem dX6_rootOfShowing_17 : decode cX6_rootOfShowing 17 = .ok (.invokestatic 69, 3) := by decide +kernel
theorem dX6_rootOfShowing_20 : decode cX6_rootOfShowing 20 = .ok (.iadd, 1) := by decide +kernel
theorem dX6_rootOfShowing_21 : decode cX6_rootOfShowing 21 = .ok (.invokevirtual 78, 3) := by decide +kernel
theorem dX6_rootOfShowing_24 : decode cX6_rootOfShowing 24 = .ok (.istore 5, 2) := by decide +kernel
theorem dX6_rootOfShowing_26 : decode cX6_rootOfShowing 26 = .ok (.iload 4, 2) := by decide +kernel
theorem dX6_rootOfShowing_28 : decode cX6_rootOfShowing 28 = .ok (.ifCond .lt 8, 3) := by decide +kernel
theorem dX6_rootOfShowing_31 : decode cX6_rootOfShowing 31 = .ok (.iload 5, 2) := by decide +kernel
theorem dX6_rootOfShowing_33 : decode cX6_rootOfShowing 33 = .ok (.ifCond .ge 7, 3) := by decide +kernel
theorem dX6_rootOfShowing_36 : decode cX6_rootOfShowing 36 = .ok (.iconst (-1), 1) := by decide +kernel
theorem dX6_rootOfShowing_37 : decode cX6_rootOfShowing 37 = .ok (.goto 10, 3) := by decide +kernel
theorem dX6_rootOfShowing_40 : decode cX6_rootOfShowing 40 = .ok (.iload 4, 2) := by decide +kernel
theorem dX6_rootOfShowing_42 : decode cX6_rootOfShowing 42 = .ok (.iload 5, 2) := by decide +kernel
theorem dX6_rootOfShowing_44 : decode cX6_rootOfShowing 44 = .ok (.invokestatic 59, 3) := by decide +kernel
theorem dX6_rootOfShowing_47 : decode cX6_rootOfShowing 47 = .ok (.ireturn, 1) := by decide +kernel
theorem dX6_halfOfShowing_0 : decode cX6_halfOfShowing 0 = .ok (.iload_n 1, 1) := by decide +kernel
theorem dX6_halfOfShowing_1 : decode cX6_halfOfShowing 1 = .ok (.iload_n 2, 1) := by decide +kernel
theorem dX6_halfOfShowing_2 : decode cX6_halfOfShowing 2 = .ok (.invokestatic 65, 3) := by decide +kernel
theorem dX6_halfOfShowing_5 : decode cX6_halfOfShowing 5 = .ok (.ifCond .ne 25, 3) := by decide +kernel
theorem dX6_halfOfShowing_8 : decode cX6_halfOfShowing 8 = .ok (.aload_n 3, 1) := by decide +kernel
theorem dX6_halfOfShowing_9 : decode cX6_halfOfShowing 9 = .ok (.iload 4, 2) := by decide +kernel
theorem dX6_halfOfShowing_11 : decode cX6_halfOfShowing 11 = .ok (.iaload, 1) := by decide +kernel
theorem dX6_halfOfShowing_12 : decode cX6_halfOfShowing 12 = .ok (.iconst 0, 1) := by decide +kernel
theorem dX6_halfOfShowing_13 : decode cX6_halfOfShowing 13 = .ok (.ldc 82, 2) := by decide +kernel
theorem dX6_halfOfShowing_15 : decode cX6_halfOfShowing 15 = .ok (.invokestatic 46, 3) := by decide +kernel
theorem dX6_halfOfShowing_18 : decode cX6_halfOfShowing 18 = .ok (.ifCond .eq 10, 3) := by decide +kernel
theorem dX6_halfOfShowing_21 : decode cX6_halfOfShowing 21 = .ok (.aload_n 3, 1) := by decide +kernel
theorem dX6_halfOfShowing_22 : decode cX6_halfOfShowing 22 = .ok (.iload 4, 2) := by decide +kernel
theorem dX6_halfOfShowing_24 : decode cX6_halfOfShowing 24 = .ok (.iaload, 1) := by decide +kernel
theorem dX6_halfOfShowing_25 : decode cX6_halfOfShowing 25 = .ok (.goto 4, 3) := by decide +kernel
theorem dX6_halfOfShowing_28 : decode cX6_halfOfShowing 28 = .ok (.iconst (-1), 1) := by decide +kernel
theorem dX6_halfOfShowing_29 : decode cX6_halfOfShowing 29 = .ok (.ireturn, 1) := by decide +kernel
theorem dX6_halfOfShowing_30 : decode cX6_halfOfShowing 30 = .ok (.aload_n 0, 1) := by decide +kernel
theorem dX6_halfOfShowing_31 : decode cX6_halfOfShowing 31 = .ok (.iload_n 1, 1) := by decide +kernel
theorem dX6_halfOfShowing_32 : decode cX6_halfOfShowing 32 = .ok (.iconst 2, 1) := by decide +kernel
theorem dX6_halfOfShowing_33 : decode cX6_halfOfShowing 33 = .ok (.iload_n 2, 1) := by decide +kernel
theorem dX6_halfOfShowing_34 : decode cX6_halfOfShowing 34 = .ok (.imul, 1) := by decide +kernel
theorem dX6_halfOfShowing_35 : decode cX6_halfOfShowing 35 = .ok (.aload_n 3, 1) := by decide +kernel
theorem dX6_halfOfShowing_36 : decode cX6_halfOfShowing 36 = .ok (.iload 4, 2) := by decide +kernel
theorem dX6_halfOfShowing_38 : decode cX6_halfOfShowing 38 = .ok (.iaload, 1) := by decide +kernel
theorem dX6_halfOfShowing_39 : decode cX6_halfOfShowing 39 = .ok (.invokevirtual 83, 3) := by decide +kernel
theorem dX6_halfOfShowing_42 : decode cX6_halfOfShowing 42 = .ok (.istore 5, 2) := by decide +kernel
theorem dX6_halfOfShowing_44 : decode cX6_halfOfShowing 44 = .ok (.aload_n 0, 1) := by decide +kernel
theorem dX6_halfOfShowing_45 : decode cX6_halfOfShowing 45 = .ok (.iload_n 1, 1) := by decide +kernel
theorem dX6_halfOfShowing_46 : decode cX6_halfOfShowing 46 = .ok (.iconst 2, 1) := by decide +kernel
theorem dX6_halfOfShowing_47 : decode cX6_halfOfShowing 47 = .ok (.iload_n 2, 1) := by decide +kernel
theorem dX6_halfOfShowing_48 : decode cX6_halfOfShowing 48 = .ok (.imul, 1) := by decide +kernel
theorem dX6_halfOfShowing_49 : decode cX6_halfOfShowing 49 = .ok (.iconst 1, 1) := by decide +kernel
theorem dX6_halfOfShowing_50 : decode cX6_halfOfShowing 50 = .ok (.iadd, 1) := by decide +kernel
theorem dX6_halfOfShowing_51 : decode cX6_halfOfShowing 51 = .ok (.aload_n 3, 1) := by decide +kernel
theorem dX6_halfOfShowing_52 : decode cX6_halfOfShowing 52 = .ok (.iload 4, 2) := by decide +kernel
theorem dX6_halfOfShowing_54 : decode cX6_halfOfShowing 54 = .ok (.iconst 1, 1) := by decide +kernel
theorem dX6_halfOfShowing_55 : decode cX6_halfOfShowing 55 = .ok (.iadd, 1) := by decide +kernel
theorem dX6_halfOfShowing_56 : decode cX6_halfOfShowing 56 = .ok (.iaload, 1) := by decide +kernel
theorem dX6_halfOfShowing_57 : decode cX6_halfOfShowing 57 = .ok (.invokevirtual 83, 3) := by decide +kernel
theorem dX6_halfOfShowing_60 : decode cX6_halfOfShowing 60 = .ok (.istore 6, 2) := by decide +kernel
theorem dX6_halfOfShowing_62 : decode cX6_halfOfShowing 62 = .ok (.iload 5, 2) := by decide +kernel
theorem dX6_halfOfShowing_64 : decode cX6_halfOfShowing 64 = .ok (.ifCond .lt 8, 3) := by decide +kernel
theorem dX6_halfOfShowing_67 : decode cX6_halfOfShowing 67 = .ok (.iload 6, 2) := by decide +kernel
theorem dX6_halfOfShowing_69 : decode cX6_halfOfShowing 69 = .ok (.ifCond .ge 7, 3) := by decide +kernel
theorem dX6_halfOfShowing_72 : decode cX6_halfOfShowing 72 = .ok (.iconst (-1), 1) := by decide +kernel
theorem dX6_halfOfShowing_73 : decode cX6_halfOfShowing 73 = .ok (.goto 10, 3) := by decide +kernel
theorem dX6_halfOfShowing_76 : decode cX6_halfOfShowing 76 = .ok (.iload 5, 2) := by decide +kernel
theorem dX6_halfOfShowing_78 : decode cX6_halfOfShowing 78 = .ok (.iload 6, 2) := by decide +kernel
theorem dX6_halfOfShowing_80 : decode cX6_halfOfShowing 80 = .ok (.invokestatic 59, 3) := by decide +kernel
theorem dX6_halfOfShowing_83 : decode cX6_halfOfShowing 83 = .ok (.ireturn, 1) := by decide +kernel
theorem dX6_leafOfShown_0 : decode cX6_leafOfShown 0 = .ok (.iload_n 1, 1) := by decide +kernel
theorem dX6_leafOfShown_1 : decode cX6_leafOfShown 1 = .ok (.iload_n 2, 1) := by decide +kernel
theorem dX6_leafOfShown_2 : decode cX6_leafOfShown 2 = .ok (.invokestatic 75, 3) := by decide +kernel
theorem dX6_leafOfShown_5 : decode cX6_leafOfShown 5 = .ok (.ifCond .eq 25, 3) := by decide +kernel
theorem dX6_leafOfShown_8 : decode cX6_leafOfShown 8 = .ok (.iload_n 3, 1) := by decide +kernel
theorem dX6_leafOfShown_9 : decode cX6_leafOfShown 9 = .ok (.iconst 0, 1) := by decide +kernel
theorem dX6_leafOfShown_10 : decode cX6_leafOfShown 10 = .ok (.sipush 999, 3) := by decide +kernel
theorem dX6_leafOfShown_13 : decode cX6_leafOfShown 13 = .ok (.invokestatic 46, 3) := by decide +kernel
theorem dX6_leafOfShown_16 : decode cX6_leafOfShown 16 = .ok (.ifCond .eq 12, 3) := by decide +kernel
theorem dX6_leafOfShown_19 : decode cX6_leafOfShown 19 = .ok (.aload_n 0, 1) := by decide +kernel
theorem dX6_leafOfShown_20 : decode cX6_leafOfShown 20 = .ok (.iload_n 2, 1) := by decide +kernel
theorem dX6_leafOfShown_21 : decode cX6_leafOfShown 21 = .ok (.iload_n 3, 1) := by decide +kernel
theorem dX6_leafOfShown_22 : decode cX6_leafOfShown 22 = .ok (.invokevirtual 51, 3) := by decide +kernel
theorem dX6_leafOfShown_25 : decode cX6_leafOfShown 25 = .ok (.goto 4, 3) := by decide +kernel
theorem dX6_leafOfShown_28 : decode cX6_leafOfShown 28 = .ok (.iconst (-1), 1) := by decide +kernel
theorem dX6_leafOfShown_29 : decode cX6_leafOfShown 29 = .ok (.ireturn, 1) := by decide +kernel
theorem dX6_leafOfShown_30 : decode cX6_leafOfShown 30 = .ok (.iload_n 3, 1) := by decide +kernel
theorem dX6_leafOfShown_31 : decode cX6_leafOfShown 31 = .ok (.iconst 0, 1) := by decide +kernel
theorem dX6_leafOfShown_32 : decode cX6_leafOfShown 32 = .ok (.ldc 82, 2) := by decide +kernel
theorem dX6_leafOfShown_34 : decode cX6_leafOfShown 34 = .ok (.invokestatic 46, 3) := by decide +kernel
theorem dX6_leafOfShown_37 : decode cX6_leafOfShown 37 = .ok (.ifCond .eq 7, 3) := by decide +kernel
theorem dX6_leafOfShown_40 : decode cX6_leafOfShown 40 = .ok (.iload_n 3, 1) := by decide +kernel
theorem dX6_leafOfShown_41 : decode cX6_leafOfShown 41 = .ok (.goto 4, 3) := by decide +kernel
theorem dX6_leafOfShown_44 : decode cX6_leafOfShown 44 = .ok (.iconst (-1), 1) := by decide +kernel
theorem dX6_leafOfShown_45 : decode cX6_leafOfShown 45 = .ok (.ireturn, 1) := by decide +kernel
theorem dX6_chainBeginning_0 : decode cX6_chainBeginning 0 = .ok (.bipush 101, 2) := by decide +kernel
theorem dX6_chainBeginning_2 : decode cX6_chainBeginning 2 = .ok (.aload_n 0, 1) := by decide +kernel
theorem dX6_chainBeginning_3 : decode cX6_chainBeginning 3 = .ok (.getfield 19, 3) := by decide +kernel
theorem dX6_chainBeginning_6 : decode cX6_chainBeginning 6 = .ok (.imul, 1) := by decide +kernel
theorem dX6_chainBeginning_7 : decode cX6_chainBeginning 7 = .ok (.bipush 17, 2) := by decide +kernel
theorem dX6_chainBeginning_9 : decode cX6_chainBeginning 9 = .ok (.iload_n 1, 1) := by decide +kernel
theorem dX6_chainBeginning_10 : decode cX6_chainBeginning 10 = .ok (.imul, 1) := by decide +kernel
theorem dX6_chainBeginning_11 : decode cX6_chainBeginning 11 = .ok (.iadd, 1) := by decide +kernel
theorem dX6_chainBeginning_12 : decode cX6_chainBeginning 12 = .ok (.iconst 1, 1) := by decide +kernel
theorem dX6_chainBeginning_13 : decode cX6_chainBeginning 13 = .ok (.iadd, 1) := by decide +kernel
theorem dX6_chainBeginning_14 : decode cX6_chainBeginning 14 = .ok (.ireturn, 1) := by decide +kernel
theorem dX6_chainEnd_0 : decode cX6_chainEnd 0 = .ok (.aload_n 0, 1) := by decide +kernel
theorem dX6_chainEnd_1 : decode cX6_chainEnd 1 = .ok (.iload_n 1, 1) := by decide +kernel
theorem dX6_chainEnd_2 : decode cX6_chainEnd 2 = .ok (.invokevirtual 87, 3) := by decide +kernel
theorem dX6_chainEnd_5 : decode cX6_chainEnd 5 = .ok (.aload_n 0, 1) := by decide +kernel
theorem dX6_chainEnd_6 : decode cX6_chainEnd 6 = .ok (.getfield 9, 3) := by decide +kernel
theorem dX6_chainEnd_9 : decode cX6_chainEnd 9 = .ok (.iload_n 1, 1) := by decide +kernel
theorem dX6_chainEnd_10 : decode cX6_chainEnd 10 = .ok (.iaload, 1) := by decide +kernel
theorem dX6_chainEnd_11 : decode cX6_chainEnd 11 = .ok (.iconst 1, 1) := by decide +kernel
theorem dX6_chainEnd_12 : decode cX6_chainEnd 12 = .ok (.iadd, 1) := by decide +kernel
theorem dX6_chainEnd_13 : decode cX6_chainEnd 13 = .ok (.invokestatic 90, 3) := by decide +kernel
theorem dX6_chainEnd_16 : decode cX6_chainEnd 16 = .ok (.ireturn, 1) := by decide +kernel
theorem dX6_kindOn_0 : decode cX6_kindOn 0 = .ok (.aload_n 0, 1) := by decide +kernel
theorem dX6_kindOn_1 : decode cX6_kindOn 1 = .ok (.getfield 15, 3) := by decide +kernel
theorem dX6_kindOn_4 : decode cX6_kindOn 4 = .ok (.iload_n 1, 1) := by decide +kernel
theorem dX6_kindOn_5 : decode cX6_kindOn 5 = .ok (.if_icmp .gt 7, 3) := by decide +kernel
theorem dX6_kindOn_8 : decode cX6_kindOn 8 = .ok (.iconst 5, 1) := by decide +kernel
theorem dX6_kindOn_9 : decode cX6_kindOn 9 = .ok (.goto 7, 3) := by decide +kernel
theorem dX6_kindOn_12 : decode cX6_kindOn 12 = .ok (.aload_n 0, 1) := by decide +kernel
theorem dX6_kindOn_13 : decode cX6_kindOn 13 = .ok (.getfield 28, 3) := by decide +kernel
theorem dX6_kindOn_16 : decode cX6_kindOn 16 = .ok (.ireturn, 1) := by decide +kernel
theorem dX6_looksLike_0 : decode cX6_looksLike 0 = .ok (.aload_n 0, 1) := by decide +kernel
theorem dX6_looksLike_1 : decode cX6_looksLike 1 = .ok (.getfield 22, 3) := by decide +kernel
theorem dX6_looksLike_4 : decode cX6_looksLike 4 = .ok (.aload_n 1, 1) := by decide +kernel
theorem dX6_looksLike_5 : decode cX6_looksLike 5 = .ok (.getfield 22, 3) := by decide +kernel
theorem dX6_looksLike_8 : decode cX6_looksLike 8 = .ok (.if_icmp .eq 5, 3) := by decide +kernel
theorem dX6_looksLike_11 : decode cX6_looksLike 11 = .ok (.iconst 0, 1) := by decide +kernel
theorem dX6_looksLike_12 : decode cX6_looksLike 12 = .ok (.ireturn, 1) := by decide +kernel
theorem dX6_looksLike_13 : decode cX6_looksLike 13 = .ok (.iconst 0, 1) := by decide +kernel
theorem dX6_looksLike_14 : decode cX6_looksLike 14 = .ok (.istore_n 3, 1) := by decide +kernel
theorem dX6_looksLike_15 : decode cX6_looksLike 15 = .ok (.iload_n 3, 1) := by decide +kernel
theorem dX6_looksLike_16 : decode cX6_looksLike 16 = .ok (.iconst 4, 1) := by decide +kernel
theorem dX6_looksLike_17 : decode cX6_looksLike 17 = .ok (.if_icmp .ge 34, 3) := by decide +kernel
theorem dX6_looksLike_20 : decode cX6_looksLike 20 = .ok (.iload_n 2, 1) := by decide +kernel
theorem dX6_looksLike_21 : decode cX6_looksLike 21 = .ok (.iload_n 3, 1) := by decide +kernel
theorem dX6_looksLike_22 : decode cX6_looksLike 22 = .ok (.invokestatic 75, 3) := by decide +kernel
theorem dX6_looksLike_25 : decode cX6_looksLike 25 = .ok (.ifCond .eq 20, 3) := by decide +kernel
theorem dX6_looksLike_28 : decode cX6_looksLike 28 = .ok (.aload_n 0, 1) := by decide +kernel
theorem dX6_looksLike_29 : decode cX6_looksLike 29 = .ok (.getfield 9, 3) := by decide +kernel
theorem dX6_looksLike_32 : decode cX6_looksLike 32 = .ok (.iload_n 3, 1) := by decide +kernel
theorem dX6_looksLike_33 : decode cX6_looksLike 33 = .ok (.iaload, 1) := by decide +kernel
theorem dX6_looksLike_34 : decode cX6_looksLike 34 = .ok (.aload_n 1, 1) := by decide +kernel
theorem dX6_looksLike_35 : decode cX6_looksLike 35 = .ok (.getfield 9, 3) := by decide +kernel
theorem dX6_looksLike_38 : decode cX6_looksLike 38 = .ok (.iload_n 3, 1) := by decide +kernel
theorem dX6_looksLike_39 : decode cX6_looksLike 39 = .ok (.iaload, 1) := by decide +kernel
theorem dX6_looksLike_40 : decode cX6_looksLike 40 = .ok (.if_icmp .eq 5, 3) := by decide +kernel
theorem dX6_looksLike_43 : decode cX6_looksLike 43 = .ok (.iconst 0, 1) := by decide +kernel
theorem dX6_looksLike_44 : decode cX6_looksLike 44 = .ok (.ireturn, 1) := by decide +kernel
theorem dX6_looksLike_45 : decode cX6_looksLike 45 = .ok (.iinc 3 1, 3) := by decide +kernel
theorem dX6_looksLike_48 : decode cX6_looksLike 48 = .ok (.goto (-33), 3) := by decide +kernel
theorem dX6_looksLike_51 : decode cX6_looksLike 51 = .ok (.iconst 1, 1) := by decide +kernel
theorem dX6_looksLike_52 : decode cX6_looksLike 52 = .ok (.ireturn, 1) := by decide +kernel
theorem dX7_init_0 : decode cX7_init 0 = .ok (.aload_n 0, 1) := by decide +kernel
theorem dX7_init_1 : decode cX7_init 1 = .ok (.invokespecial 3, 3) := by decide +kernel
theorem dX7_init_4 : decode cX7_init 4 = .ok (.aload_n 0, 1) := by decide +kernel
theorem dX7_init_5 : decode cX7_init 5 = .ok (.bipush 8, 2) := by decide +kernel
theorem dX7_init_7 : decode cX7_init 7 = .ok (.bipush 60, 2) := by decide +kernel
theorem dX7_init_9 : decode cX7_init 9 = .ok (.multianewarray 11 2, 4) := by decide +kernel
theorem dX7_init_13 : decode cX7_init 13 = .ok (.putfield 13, 3) := by decide +kernel
theorem dX7_init_16 : decode cX7_init 16 = .ok (.aload_n 0, 1) := by decide +kernel
theorem dX7_init_17 : decode cX7_init 17 = .ok (.bipush 8, 2) := by decide +kernel
theorem dX7_init_19 : decode cX7_init 19 = .ok (.newarray .int, 2) := by decide +kernel
theorem dX7_init_21 : decode cX7_init 21 = .ok (.putfield 16, 3) := by decide +kernel
theorem dX7_init_24 : decode cX7_init 24 = .ok (.aload_n 0, 1) := by decide +kernel
theorem dX7_init_25 : decode cX7_init 25 = .ok (.bipush 8, 2) := by decide +kernel
theorem dX7_init_27 : decode cX7_init 27 = .ok (.newarray .int, 2) := by decide +kernel
theorem dX7_init_29 : decode cX7_init 29 = .ok (.putfield 20, 3) := by decide +kernel
theorem dX7_init_32 : decode cX7_init 32 = .ok (.aload_n 0, 1) := by decide +kernel
theorem dX7_init_33 : decode cX7_init 33 = .ok (.getfield 20, 3) := by decide +kernel
theorem dX7_init_36 : decode cX7_init 36 = .ok (.iconst (-1), 1) := by decide +kernel
theorem dX7_init_37 : decode cX7_init 37 = .ok (.invokestatic 23, 3) := by decide +kernel
theorem dX7_init_40 : decode cX7_init 40 = .ok (.return_, 1) := by decide +kernel
theorem dX7_isNumber_0 : decode cX7_isNumber 0 = .ok (.iload_n 0, 1) := by decide +kernel
theorem dX7_isNumber_1 : decode cX7_isNumber 1 = .ok (.iconst 0, 1) := by decide +kernel
theorem dX7_isNumber_2 : decode cX7_isNumber 2 = .ok (.bipush 7, 2) := by decide +kernel
theorem dX7_isNumber_4 : decode cX7_isNumber 4 = .ok (.invokestatic 29, 3) := by decide +kernel
theorem dX7_isNumber_7 : decode cX7_isNumber 7 = .ok (.ireturn, 1) := by decide +kernel
theorem dX7_isMissing_0 : decode cX7_isMissing 0 = .ok (.aload_n 0, 1) := by decide +kernel
theorem dX7_isMissing_1 : decode cX7_isMissing 1 = .ok (.getfield 20, 3) := by decide +kernel
theorem dX7_isMissing_4 : decode cX7_isMissing 4 = .ok (.iload_n 1, 1) := by decide +kernel
theorem dX7_isMissing_5 : decode cX7_isMissing 5 = .ok (.iaload, 1) := by decide +kernel
theorem dX7_isMissing_6 : decode cX7_isMissing 6 = .ok (.iconst (-1), 1) := by decide +kernel
theorem dX7_isMissing_7 : decode cX7_isMissing 7 = .ok (.if_icmp .ne 7, 3) := by decide +kernel
theorem dX7_isMissing_10 : decode cX7_isMissing 10 = .ok (.iconst 1, 1) := by decide +kernel
theorem dX7_isMissing_11 : decode cX7_isMissing 11 = .ok (.goto 4, 3) := by decide +kernel
theorem dX7_isMissing_14 : decode cX7_isMissing 14 = .ok (.iconst 0, 1) := by decide +kernel
theorem dX7_isMissing_15 : decode cX7_isMissing 15 = .ok (.ireturn, 1) := by decide +kernel
theorem dX7_reaches_0 : decode cX7_reaches 0 = .ok (.iload_n 2, 1) := by decide +kernel
theorem dX7_reaches_1 : decode cX7_reaches 1 = .ok (.ifCond .lt 23, 3) := by decide +kernel
theorem dX7_reaches_4 : decode cX7_reaches 4 = .ok (.iload_n 3, 1) := by decide +kernel
theorem dX7_reaches_5 : decode cX7_reaches 5 = .ok (.ifCond .lt 19, 3) := by decide +kernel
theorem dX7_reaches_8 : decode cX7_reaches 8 = .ok (.iload_n 2, 1) := by decide +kernel
theorem dX7_reaches_9 : decode cX7_reaches 9 = .ok (.aload_n 0, 1) := by decide +kernel
theorem dX7_reaches_10 : decode cX7_reaches 10 = .ok (.getfield 20, 3) := by decide +kernel
theorem dX7_reaches_13 : decode cX7_reaches 13 = .ok (.iload_n 1, 1) := by decide +kernel
theorem dX7_reaches_14 : decode cX7_reaches 14 = .ok (.iaload, 1) := by decide +kernel
theorem dX7_reaches_15 : decode cX7_reaches 15 = .ok (.iload_n 3, 1) := by decide +kernel
theorem dX7_reaches_16 : decode cX7_reaches 16 = .ok (.isub, 1) := by decide +kernel
theorem dX7_reaches_17 : decode cX7_reaches 17 = .ok (.if_icmp .gt 7, 3) := by decide +kernel
theorem dX7_reaches_20 : decode cX7_reaches 20 = .ok (.iconst 1, 1) := by decide +kernel
theorem dX7_reaches_21 : decode cX7_reaches 21 = .ok (.goto 4, 3) := by decide +kernel
theorem dX7_reaches_24 : decode cX7_reaches 24 = .ok (.iconst 0, 1) := by decide +kernel
theorem dX7_reaches_25 : decode cX7_reaches 25 = .ok (.ireturn, 1) := by decide +kernel
theorem dX7_troubleAt_0 : decode cX7_troubleAt 0 = .ok (.aload_n 0, 1) := by decide +kernel
theorem dX7_troubleAt_1 : decode cX7_troubleAt 1 = .ok (.iload_n 1, 1) := by decide +kernel
theorem dX7_troubleAt_2 : decode cX7_troubleAt 2 = .ok (.invokevirtual 33, 3) := by decide +kernel
theorem dX7_troubleAt_5 : decode cX7_troubleAt 5 = .ok (.ifCond .eq 5, 3) := by decide +kernel
theorem dX7_troubleAt_8 : decode cX7_troubleAt 8 = .ok (.iconst 1, 1) := by decide +kernel
theorem dX7_troubleAt_9 : decode cX7_troubleAt 9 = .ok (.ireturn, 1) := by decide +kernel
theorem dX7_troubleAt_10 : decode cX7_troubleAt 10 = .ok (.aload_n 0, 1) := by decide +kernel
theorem dX7_troubleAt_11 : decode cX7_troubleAt 11 = .ok (.iload_n 1, 1) := by decide +kernel
theorem dX7_troubleAt_12 : decode cX7_troubleAt 12 = .ok (.iload_n 2, 1) := by decide +kernel
theorem dX7_troubleAt_13 : decode cX7_troubleAt 13 = .ok (.iload_n 3, 1) := by decide +kernel
theorem dX7_troubleAt_14 : decode cX7_troubleAt 14 = .ok (.invokevirtual 37, 3) := by decide +kernel
theorem dX7_troubleAt_17 : decode cX7_troubleAt 17 = .ok (.ifCond .eq 7, 3) := by decide +kernel
theorem dX7_troubleAt_20 : decode cX7_troubleAt 20 = .ok (.iconst 0, 1) := by decide +kernel
theorem dX7_troubleAt_21 : decode cX7_troubleAt 21 = .ok (.goto 4, 3) := by decide +kernel
theorem dX7_troubleAt_24 : decode cX7_troubleAt 24 = .ok (.iconst 2, 1) := by decide +kernel
theorem dX7_troubleAt_25 : decode cX7_troubleAt 25 = .ok (.ireturn, 1) := by decide +kernel
theorem dX7_make_0 : decode cX7_make 0 = .ok (.aload_n 0, 1) := by decide +kernel
theorem dX7_make_1 : decode cX7_make 1 = .ok (.getfield 16, 3) := by decide +kernel
theorem dX7_make_4 : decode cX7_make 4 = .ok (.iload_n 1, 1) := by decide +kernel
theorem dX7_make_5 : decode cX7_make 5 = .ok (.iload_n 2, 1) := by decide +kernel
theorem dX7_make_6 : decode cX7_make 6 = .ok (.iastore, 1) := by decide +kernel
theorem dX7_make_7 : decode cX7_make 7 = .ok (.aload_n 0, 1) := by decide +kernel
theorem dX7_make_8 : decode cX7_make 8 = .ok (.getfield 20, 3) := by decide +kernel
theorem dX7_make_11 : decode cX7_make 11 = .ok (.iload_n 1, 1) := by decide +kernel
theorem dX7_make_12 : decode cX7_make 12 = .ok (.iload_n 3, 1) := by decide +kernel
theorem dX7_make_13 : decode cX7_make 13 = .ok (.iastore, 1) := by decide +kernel
theorem dX7_make_14 : decode cX7_make 14 = .ok (.aload_n 0, 1) := by decide +kernel
theorem dX7_make_15 : decode cX7_make 15 = .ok (.getfield 13, 3) := by decide +kernel
theorem dX7_make_18 : decode cX7_make 18 = .ok (.iload_n 1, 1) := by decide +kernel
theorem dX7_make_19 : decode cX7_make 19 = .ok (.aaload, 1) := by decide +kernel
theorem dX7_make_20 : decode cX7_make 20 = .ok (.iconst 0, 1) := by decide +kernel
theorem dX7_make_21 : decode cX7_make 21 = .ok (.invokestatic 23, 3) := by decide +kernel
theorem dX7_make_24 : decode cX7_make 24 = .ok (.return_, 1) := by decide +kernel
theorem dX7_put_0 : decode cX7_put 0 = .ok (.aload_n 0, 1) := by decide +kernel
theorem dX7_put_1 : decode cX7_put 1 = .ok (.getfield 16, 3) := by decide +kernel
theorem dX7_put_4 : decode cX7_put 4 = .ok (.iload_n 1, 1) := by decide +kernel
theorem dX7_put_5 : decode cX7_put 5 = .ok (.iaload, 1) := by decide +kernel
theorem dX7_put_6 : decode cX7_put 6 = .ok (.istore 4, 2) := by decide +kernel
theorem dX7_put_8 : decode cX7_put 8 = .ok (.iload 4, 2) := by decide +kernel
theorem dX7_put_10 : decode cX7_put 10 = .ok (.ifCond .ne 8, 3) := by decide +kernel
theorem dX7_put_13 : decode cX7_put 13 = .ok (.iload_n 3, 1) := by decide +kernel
theorem dX7_put_14 : decode cX7_put 14 = .ok (.i2b, 1) := by decide +kernel
theorem dX7_put_15 : decode cX7_put 15 = .ok (.goto 15, 3) := by decide +kernel
theorem dX7_put_18 : decode cX7_put 18 = .ok (.iload 4, 2) := by decide +kernel
theorem dX7_put_20 : decode cX7_put 20 = .ok (.iconst 1, 1) := by decide +kernel
theorem dX7_put_21 : decode cX7_put 21 = .ok (.if_icmp .ne 8, 3) := by decide +kernel
theorem dX7_put_24 : decode cX7_put 24 = .ok (.iload_n 3, 1) := by decide +kernel
theorem dX7_put_25 : decode cX7_put 25 = .ok (.i2s, 1) := by decide +kernel
theorem dX7_put_26 : decode cX7_put 26 = .ok (.goto 4, 3) := by decide +kernel
theorem dX7_put_29 : decode cX7_put 29 = .ok (.iload_n 3, 1) := by decide +kernel
theorem dX7_put_30 : decode cX7_put 30 = .ok (.istore 5, 2) := by decide +kernel
theorem dX7_put_32 : decode cX7_put 32 = .ok (.aload_n 0, 1) := by decide +kernel
theorem dX7_put_33 : decode cX7_put 33 = .ok (.getfield 13, 3) := by decide +kernel
theorem dX7_put_36 : decode cX7_put 36 = .ok (.iload_n 1, 1) := by decide +kernel
theorem dX7_put_37 : decode cX7_put 37 = .ok (.aaload, 1) := by decide +kernel
theorem dX7_put_38 : decode cX7_put 38 = .ok (.iload_n 2, 1) := by decide +kernel
theorem dX7_put_39 : decode cX7_put 39 = .ok (.iload 5, 2) := by decide +kernel
theorem dX7_put_41 : decode cX7_put 41 = .ok (.iastore, 1) := by decide +kernel
theorem dX7_put_42 : decode cX7_put 42 = .ok (.iload 5, 2) := by decide +kernel
theorem dX7_put_44 : decode cX7_put 44 = .ok (.ireturn, 1) := by decide +kernel
theorem dX7_forget_0 : decode cX7_forget 0 = .ok (.aload_n 0, 1) := by decide +kernel
theorem dX7_forget_1 : decode cX7_forget 1 = .ok (.getfield 20, 3) := by decide +kernel
theorem dX7_forget_4 : decode cX7_forget 4 = .ok (.iload_n 1, 1) := by decide +kernel
theorem dX7_forget_5 : decode cX7_forget 5 = .ok (.iaload, 1) := by decide +kernel
theorem dX7_forget_6 : decode cX7_forget 6 = .ok (.istore_n 2, 1) := by decide +kernel
theorem dX7_forget_7 : decode cX7_forget 7 = .ok (.aload_n 0, 1) := by decide +kernel
theorem dX7_forget_8 : decode cX7_forget 8 = .ok (.getfield 20, 3) := by decide +kernel
theorem dX7_forget_11 : decode cX7_forget 11 = .ok (.iload_n 1, 1) := by decide +kernel
theorem dX7_forget_12 : decode cX7_forget 12 = .ok (.iconst (-1), 1) := by decide +kernel
theorem dX7_forget_13 : decode cX7_forget 13 = .ok (.iastore, 1) := by decide +kernel
theorem dX7_forget_14 : decode cX7_forget 14 = .ok (.iload_n 2, 1) := by decide +kernel
theorem dX7_forget_15 : decode cX7_forget 15 = .ok (.ireturn, 1) := by decide +kernel
theorem dX7_present_0 : decode cX7_present 0 = .ok (.iconst 0, 1) := by decide +kernel
theorem dX7_present_1 : decode cX7_present 1 = .ok (.istore_n 1, 1) := by decide +kernel
theorem dX7_present_2 : decode cX7_present 2 = .ok (.iconst 0, 1) := by decide +kernel
theorem dX7_present_3 : decode cX7_present 3 = .ok (.istore_n 2, 1) := by decide +kernel
theorem dX7_present_4 : decode cX7_present 4 = .ok (.iload_n 2, 1) := by decide +kernel
theorem dX7_present_5 : decode cX7_present 5 = .ok (.bipush 8, 2) := by decide +kernel
theorem dX7_present_7 : decode cX7_present 7 = .ok (.if_icmp .ge 20, 3) := by decide +kernel
theorem dX7_present_10 : decode cX7_present 10 = .ok (.aload_n 0, 1) := by decide +kernel
theorem dX7_present_11 : decode cX7_present 11 = .ok (.iload_n 2, 1) := by decide +kernel
theorem dX7_present_12 : decode cX7_present 12 = .ok (.invokevirtual 33, 3) := by decide +kernel
theorem dX7_present_15 : decode cX7_present 15 = .ok (.ifCond .ne 6, 3) := by decide +kernel
theorem dX7_present_18 : decode cX7_present 18 = .ok (.iinc 1 1, 3) := by decide +kernel
theorem dX7_present_21 : decode cX7_present 21 = .ok (.iinc 2 1, 3) := by decide +kernel
theorem dX7_present_24 : decode cX7_present 24 = .ok (.goto (-20), 3) := by decide +kernel
theorem dX7_present_27 : decode cX7_present 27 = .ok (.iload_n 1, 1) := by decide +kernel
theorem dX7_present_28 : decode cX7_present 28 = .ok (.ireturn, 1) := by decide +kernel
theorem dX8_init_0 : decode cX8_init 0 = .ok (.aload_n 0, 1) := by decide +kernel
theorem dX8_init_1 : decode cX8_init 1 = .ok (.invokespecial 1, 3) := by decide +kernel
theorem dX8_init_4 : decode cX8_init 4 = .ok (.aload_n 0, 1) := by decide +kernel
theorem dX8_init_5 : decode cX8_init 5 = .ok (.bipush 30, 2) := by decide +kernel
theorem dX8_init_7 : decode cX8_init 7 = .ok (.newarray .int, 2) := by decide +kernel
theorem dX8_init_9 : decode cX8_init 9 = .ok (.putfield 9, 3) := by decide +kernel
theorem dX8_init_12 : decode cX8_init 12 = .ok (.aload_n 0, 1) := by decide +kernel
theorem dX8_init_13 : decode cX8_init 13 = .ok (.bipush 30, 2) := by decide +kernel
theorem dX8_init_15 : decode cX8_init 15 = .ok (.newarray .int, 2) := by decide +kernel
theorem dX8_init_17 : decode cX8_init 17 = .ok (.putfield 13, 3) := by decide +kernel
theorem dX8_init_20 : decode cX8_init 20 = .ok (.return_, 1) := by decide +kernel
theorem dX8_add_0 : decode cX8_add 0 = .ok (.aload_n 0, 1) := by decide +kernel
theorem dX8_add_1 : decode cX8_add 1 = .ok (.getfield 16, 3) := by decide +kernel
theorem dX8_add_4 : decode cX8_add 4 = .ok (.bipush 30, 2) := by decide +kernel
theorem dX8_add_6 : decode cX8_add 6 = .ok (.if_icmp .lt 5, 3) := by decide +kernel
theorem dX8_add_9 : decode cX8_add 9 = .ok (.iconst 0, 1) := by decide +kernel
theorem dX8_add_10 : decode cX8_add 10 = .ok (.ireturn, 1) := by decide +kernel
theorem dX8_add_11 : decode cX8_add 11 = .ok (.aload_n 0, 1) := by decide +kernel
theorem dX8_add_12 : decode cX8_add 12 = .ok (.getfield 9, 3) := by decide +kernel
theorem dX8_add_15 : decode cX8_add 15 = .ok (.aload_n 0, 1) := by decide +kernel
theorem dX8_add_16 : decode cX8_add 16 = .ok (.getfield 16, 3) := by decide +kernel
theorem dX8_add_19 : decode cX8_add 19 = .ok (.iload_n 1, 1) := by decide +kernel
theorem dX8_add_20 : decode cX8_add 20 = .ok (.iastore, 1) := by decide +kernel
theorem dX8_add_21 : decode cX8_add 21 = .ok (.aload_n 0, 1) := by decide +kernel
theorem dX8_add_22 : decode cX8_add 22 = .ok (.getfield 13, 3) := by decide +kernel
theorem dX8_add_25 : decode cX8_add 25 = .ok (.aload_n 0, 1) := by decide +kernel
theorem dX8_add_26 : decode cX8_add 26 = .ok (.getfield 16, 3) := by decide +kernel
theorem dX8_add_29 : decode cX8_add 29 = .ok (.iload_n 2, 1) := by decide +kernel
theorem dX8_add_30 : decode cX8_add 30 = .ok (.iastore, 1) := by decide +kernel
theorem dX8_add_31 : decode cX8_add 31 = .ok (.aload_n 0, 1) := by decide +kernel
theorem dX8_add_32 : decode cX8_add 32 = .ok (.dup, 1) := by decide +kernel
theorem dX8_add_33 : decode cX8_add 33 = .ok (.getfield 16, 3) := by decide +kernel
theorem dX8_add_36 : decode cX8_add 36 = .ok (.iconst 1, 1) := by decide +kernel
theorem dX8_add_37 : decode cX8_add 37 = .ok (.iadd, 1) := by decide +kernel
theorem dX8_add_38 : decode cX8_add 38 = .ok (.putfield 16, 3) := by decide +kernel
theorem dX8_add_41 : decode cX8_add 41 = .ok (.iconst 1, 1) := by decide +kernel
theorem dX8_add_42 : decode cX8_add 42 = .ok (.ireturn, 1) := by decide +kernel
theorem dX9_init_0 : decode cX9_init 0 = .ok (.aload_n 0, 1) := by decide +kernel
theorem dX9_init_1 : decode cX9_init 1 = .ok (.invokespecial 3, 3) := by decide +kernel
theorem dX9_init_4 : decode cX9_init 4 = .ok (.aload_n 0, 1) := by decide +kernel
theorem dX9_init_5 : decode cX9_init 5 = .ok (.sipush 300, 3) := by decide +kernel
theorem dX9_init_8 : decode cX9_init 8 = .ok (.newarray .byte, 2) := by decide +kernel
theorem dX9_init_10 : decode cX9_init 10 = .ok (.putfield 11, 3) := by decide +kernel
theorem dX9_init_13 : decode cX9_init 13 = .ok (.return_, 1) := by decide +kernel
theorem dX9_append_0 : decode cX9_append 0 = .ok (.aload_n 0, 1) := by decide +kernel
theorem dX9_append_1 : decode cX9_append 1 = .ok (.getfield 15, 3) := by decide +kernel
theorem dX9_append_4 : decode cX9_append 4 = .ok (.sipush 300, 3) := by decide +kernel
theorem dX9_append_7 : decode cX9_append 7 = .ok (.iload_n 3, 1) := by decide +kernel
theorem dX9_append_8 : decode cX9_append 8 = .ok (.isub, 1) := by decide +kernel
theorem dX9_append_9 : decode cX9_append 9 = .ok (.if_icmp .le 5, 3) := by decide +kernel
theorem dX9_append_12 : decode cX9_append 12 = .ok (.iconst 0, 1) := by decide +kernel
theorem dX9_append_13 : decode cX9_append 13 = .ok (.ireturn, 1) := by decide +kernel
theorem dX9_append_14 : decode cX9_append 14 = .ok (.iload_n 3, 1) := by decide +kernel
theorem dX9_append_15 : decode cX9_append 15 = .ok (.iconst 1, 1) := by decide +kernel
theorem dX9_append_16 : decode cX9_append 16 = .ok (.isub, 1) := by decide +kernel
theorem dX9_append_17 : decode cX9_append 17 = .ok (.istore 4, 2) := by decide +kernel
theorem dX9_append_19 : decode cX9_append 19 = .ok (.iload 4, 2) := by decide +kernel
theorem dX9_append_21 : decode cX9_append 21 = .ok (.ifCond .lt 37, 3) := by decide +kernel
theorem dX9_append_24 : decode cX9_append 24 = .ok (.aload_n 0, 1) := by decide +kernel
theorem dX9_append_25 : decode cX9_append 25 = .ok (.getfield 11, 3) := by decide +kernel
theorem dX9_append_28 : decode cX9_append 28 = .ok (.aload_n 0, 1) := by decide +kernel
theorem dX9_append_29 : decode cX9_append 29 = .ok (.getfield 15, 3) := by decide +kernel
theorem dX9_append_32 : decode cX9_append 32 = .ok (.lload_n 1, 1) := by decide +kernel
theorem dX9_append_33 : decode cX9_append 33 = .ok (.bipush 8, 2) := by decide +kernel
theorem dX9_append_35 : decode cX9_append 35 = .ok (.iload 4, 2) := by decide +kernel
theorem dX9_append_37 : decode cX9_append 37 = .ok (.imul, 1) := by decide +kernel
theorem dX9_append_38 : decode cX9_append 38 = .ok (.lshr, 1) := by decide +kernel
theorem dX9_append_39 : decode cX9_append 39 = .ok (.l2i, 1) := by decide +kernel
theorem dX9_append_40 : decode cX9_append 40 = .ok (.i2b, 1) := by decide +kernel
theorem dX9_append_41 : decode cX9_append 41 = .ok (.bastore, 1) := by decide +kernel
theorem dX9_append_42 : decode cX9_append 42 = .ok (.aload_n 0, 1) := by decide +kernel
theorem dX9_append_43 : decode cX9_append 43 = .ok (.dup, 1) := by decide +kernel
theorem dX9_append_44 : decode cX9_append 44 = .ok (.getfield 15, 3) := by decide +kernel
theorem dX9_append_47 : decode cX9_append 47 = .ok (.iconst 1, 1) := by decide +kernel
theorem dX9_append_48 : decode cX9_append 48 = .ok (.iadd, 1) := by decide +kernel
theorem dX9_append_49 : decode cX9_append 49 = .ok (.putfield 15, 3) := by decide +kernel
theorem dX9_append_52 : decode cX9_append 52 = .ok (.iinc 4 (-1), 3) := by decide +kernel
theorem dX9_append_55 : decode cX9_append 55 = .ok (.goto (-36), 3) := by decide +kernel
theorem dX9_append_58 : decode cX9_append 58 = .ok (.iconst 1, 1) := by decide +kernel
theorem dX9_append_59 : decode cX9_append 59 = .ok (.ireturn, 1) := by decide +kernel
theorem dX9_readAll_0 : decode cX9_readAll 0 = .ok (.aload_n 0, 1) := by decide +kernel
theorem dX9_readAll_1 : decode cX9_readAll 1 = .ok (.iconst 0, 1) := by decide +kernel
theorem dX9_readAll_2 : decode cX9_readAll 2 = .ok (.putfield 19, 3) := by decide +kernel
theorem dX9_readAll_5 : decode cX9_readAll 5 = .ok (.aload_n 0, 1) := by decide +kernel
theorem dX9_readAll_6 : decode cX9_readAll 6 = .ok (.aload_n 1, 1) := by decide +kernel
theorem dX9_readAll_7 : decode cX9_readAll 7 = .ok (.invokevirtual 23, 3) := by decide +kernel
theorem dX9_readAll_10 : decode cX9_readAll 10 = .ok (.istore_n 2, 1) := by decide +kernel
theorem dX9_readAll_11 : decode cX9_readAll 11 = .ok (.iload_n 2, 1) := by decide +kernel
theorem dX9_readAll_12 : decode cX9_readAll 12 = .ok (.ifCond .lt 14, 3) := by decide +kernel
theorem dX9_readAll_15 : decode cX9_readAll 15 = .ok (.aload_n 0, 1) := by decide +kernel
theorem dX9_readAll_16 : decode cX9_readAll 16 = .ok (.iconst 1, 1) := by decide +kernel
theorem dX9_readAll_17 : decode cX9_readAll 17 = .ok (.putfield 19, 3) := by decide +kernel
theorem dX9_readAll_20 : decode cX9_readAll 20 = .ok (.aload_n 0, 1) := by decide +kernel
theorem dX9_readAll_21 : decode cX9_readAll 21 = .ok (.aload_n 1, 1) := by decide +kernel
theorem dX9_readAll_22 : decode cX9_readAll 22 = .ok (.invokevirtual 23, 3) := by decide +kernel
theorem dX9_readAll_25 : decode cX9_readAll 25 = .ok (.pop, 1) := by decide +kernel
theorem dX9_readAll_26 : decode cX9_readAll 26 = .ok (.aload_n 0, 1) := by decide +kernel
theorem dX9_readAll_27 : decode cX9_readAll 27 = .ok (.iconst 0, 1) := by decide +kernel
theorem dX9_readAll_28 : decode cX9_readAll 28 = .ok (.putfield 15, 3) := by decide +kernel
theorem dX9_readAll_31 : decode cX9_readAll 31 = .ok (.iload_n 2, 1) := by decide +kernel
theorem dX9_readAll_32 : decode cX9_readAll 32 = .ok (.ifCond .lt 7, 3) := by decide +kernel
theorem dX9_readAll_35 : decode cX9_readAll 35 = .ok (.iload_n 2, 1) := by decide +kernel
theorem dX9_readAll_36 : decode cX9_readAll 36 = .ok (.goto 10, 3) := by decide +kernel
theorem dX9_readAll_39 : decode cX9_readAll 39 = .ok (.ldc 27, 2) := by decide +kernel
theorem dX9_readAll_41 : decode cX9_readAll 41 = .ok (.aload_n 0, 1) := by decide +kernel
theorem dX9_readAll_42 : decode cX9_readAll 42 = .ok (.getfield 28, 3) := by decide +kernel
theorem dX9_readAll_45 : decode cX9_readAll 45 = .ok (.isub, 1) := by decide +kernel
theorem dX9_readAll_46 : decode cX9_readAll 46 = .ok (.ireturn, 1) := by decide +kernel
theorem dX9_readTexts_0 : decode cX9_readTexts 0 = .ok (.aload_n 0, 1) := by decide +kernel
theorem dX9_readTexts_1 : decode cX9_readTexts 1 = .ok (.iconst 0, 1) := by decide +kernel
theorem dX9_readTexts_2 : decode cX9_readTexts 2 = .ok (.putfield 31, 3) := by decide +kernel
theorem dX9_readTexts_5 : decode cX9_readTexts 5 = .ok (.aload_n 0, 1) := by decide +kernel
theorem dX9_readTexts_6 : decode cX9_readTexts 6 = .ok (.invokevirtual 34, 3) := by decide +kernel
theorem dX9_readTexts_9 : decode cX9_readTexts 9 = .ok (.iconst 0, 1) := by decide +kernel
theorem dX9_readTexts_10 : decode cX9_readTexts 10 = .ok (.istore_n 2, 1) := by decide +kernel
theorem dX9_readTexts_11 : decode cX9_readTexts 11 = .ok (.aload_n 0, 1) := by decide +kernel
theorem dX9_readTexts_12 : decode cX9_readTexts 12 = .ok (.getfield 37, 3) := by decide +kernel
theorem dX9_readTexts_15 : decode cX9_readTexts 15 = .ok (.ifCond .eq 62, 3) := by decide +kernel
theorem dX9_readTexts_18 : decode cX9_readTexts 18 = .ok (.iload_n 2, 1) := by decide +kernel
theorem dX9_readTexts_19 : decode cX9_readTexts 19 = .ok (.sipush 300, 3) := by decide +kernel
theorem dX9_readTexts_22 : decode cX9_readTexts 22 = .ok (.if_icmp .gt 55, 3) := by decide +kernel
theorem dX9_readTexts_25 : decode cX9_readTexts 25 = .ok (.aload_n 0, 1) := by decide +kernel
theorem dX9_readTexts_26 : decode cX9_readTexts 26 = .ok (.ldc 40, 2) := by decide +kernel
theorem dX9_readTexts_28 : decode cX9_readTexts 28 = .ok (.invokevirtual 42, 3) := by decide +kernel
theorem dX9_readTexts_31 : decode cX9_readTexts 31 = .ok (.ifCond .eq 11, 3) := by decide +kernel
theorem dX9_readTexts_34 : decode cX9_readTexts 34 = .ok (.aload_n 0, 1) := by decide +kernel
theorem dX9_readTexts_35 : decode cX9_readTexts 35 = .ok (.aload_n 1, 1) := by decide +kernel
theorem dX9_readTexts_36 : decode cX9_readTexts 36 = .ok (.invokevirtual 46, 3) := by decide +kernel
theorem dX9_readTexts_39 : decode cX9_readTexts 39 = .ok (.goto 25, 3) := by decide +kernel
theorem dX9_readTexts_42 : decode cX9_readTexts 42 = .ok (.aload_n 0, 1) := by decide +kernel
theorem dX9_readTexts_43 : decode cX9_readTexts 43 = .ok (.ldc 50, 2) := by decide +kernel
theorem dX9_readTexts_45 : decode cX9_readTexts 45 = .ok (.invokevirtual 42, 3) := by decide +kernel
theorem dX9_readTexts_48 : decode cX9_readTexts 48 = .ok (.ifCond .eq 11, 3) := by decide +kernel
theorem dX9_readTexts_51 : decode cX9_readTexts 51 = .ok (.aload_n 0, 1) := by decide +kernel
theorem dX9_readTexts_52 : decode cX9_readTexts 52 = .ok (.aload_n 1, 1) := by decide +kernel
theorem dX9_readTexts_53 : decode cX9_readTexts 53 = .ok (.invokevirtual 52, 3) := by decide +kernel
theorem dX9_readTexts_56 : decode cX9_readTexts 56 = .ok (.goto 8, 3) := by decide +kernel
theorem dX9_readTexts_59 : decode cX9_readTexts 59 = .ok (.aload_n 0, 1) := by decide +kernel
theorem dX9_readTexts_60 : decode cX9_readTexts 60 = .ok (.iconst 1, 1) := by decide +kernel
theorem dX9_readTexts_61 : decode cX9_readTexts 61 = .ok (.invokevirtual 55, 3) := by decide +kernel
theorem dX9_readTexts_64 : decode cX9_readTexts 64 = .ok (.istore_n 3, 1) := by decide +kernel
theorem dX9_readTexts_65 : decode cX9_readTexts 65 = .ok (.iload_n 3, 1) := by decide +kernel
theorem dX9_readTexts_66 : decode cX9_readTexts 66 = .ok (.ifCond .ne 5, 3) := by decide +kernel
theorem dX9_readTexts_69 : decode cX9_readTexts 69 = .ok (.iconst (-1), 1) := by decide +kernel
theorem dX9_readTexts_70 : decode cX9_readTexts 70 = .ok (.ireturn, 1) := by decide +kernel
theorem dX9_readTexts_71 : decode cX9_readTexts 71 = .ok (.iinc 2 1, 3) := by decide +kernel
theorem dX9_readTexts_74 : decode cX9_readTexts 74 = .ok (.goto (-63), 3) := by decide +kernel
theorem dX9_readTexts_77 : decode cX9_readTexts 77 = .ok (.iload_n 2, 1) := by decide +kernel
theorem dX9_readTexts_78 : decode cX9_readTexts 78 = .ok (.ireturn, 1) := by decide +kernel
theorem dX9_readDoor_0 : decode cX9_readDoor 0 = .ok (.aload_n 0, 1) := by decide +kernel
theorem dX9_readDoor_1 : decode cX9_readDoor 1 = .ok (.invokevirtual 34, 3) := by decide +kernel
theorem dX9_readDoor_4 : decode cX9_readDoor 4 = .ok (.aload_n 0, 1) := by decide +kernel
theorem dX9_readDoor_5 : decode cX9_readDoor 5 = .ok (.iconst 3, 1) := by decide +kernel
theorem dX9_readDoor_6 : decode cX9_readDoor 6 = .ok (.invokevirtual 59, 3) := by decide +kernel
theorem dX9_readDoor_9 : decode cX9_readDoor 9 = .ok (.ifCond .ne 5, 3) := by decide +kernel
theorem dX9_readDoor_12 : decode cX9_readDoor 12 = .ok (.iconst 0, 1) := by decide +kernel
theorem dX9_readDoor_13 : decode cX9_readDoor 13 = .ok (.ireturn, 1) := by decide +kernel
theorem dX9_readDoor_14 : decode cX9_readDoor 14 = .ok (.aload_n 0, 1) := by decide +kernel
theorem dX9_readDoor_15 : decode cX9_readDoor 15 = .ok (.getfield 62, 3) := by decide +kernel
theorem dX9_readDoor_18 : decode cX9_readDoor 18 = .ok (.istore_n 2, 1) := by decide +kernel
theorem dX9_readDoor_19 : decode cX9_readDoor 19 = .ok (.aload_n 0, 1) := by decide +kernel
theorem dX9_readDoor_20 : decode cX9_readDoor 20 = .ok (.getfield 19, 3) := by decide +kernel
theorem dX9_readDoor_23 : decode cX9_readDoor 23 = .ok (.ifCond .eq 10, 3) := by decide +kernel
theorem dX9_readDoor_26 : decode cX9_readDoor 26 = .ok (.aload_n 1, 1) := by decide +kernel
theorem dX9_readDoor_27 : decode cX9_readDoor 27 = .ok (.getfield 65, 3) := by decide +kernel
theorem dX9_readDoor_30 : decode cX9_readDoor 30 = .ok (.iload_n 2, 1) := by decide +kernel
theorem dX9_readDoor_31 : decode cX9_readDoor 31 = .ok (.iconst 0, 1) := by decide +kernel
theorem dX9_readDoor_32 : decode cX9_readDoor 32 = .ok (.iastore, 1) := by decide +kernel
theorem dX9_readDoor_33 : decode cX9_readDoor 33 = .ok (.aload_n 0, 1) := by decide +kernel
theorem dX9_readDoor_34 : decode cX9_readDoor 34 = .ok (.invokevirtual 34, 3) := by decide +kernel
theorem dX9_readDoor_37 : decode cX9_readDoor 37 = .ok (.iconst 0, 1) := by decide +kernel
theorem dX9_readDoor_38 : decode cX9_readDoor 38 = .ok (.istore_n 3, 1) := by decide +kernel
theorem dX9_readDoor_39 : decode cX9_readDoor 39 = .ok (.iload_n 3, 1) := by decide +kernel
theorem dX9_readDoor_40 : decode cX9_readDoor 40 = .ok (.bipush 8, 2) := by decide +kernel
theorem dX9_readDoor_42 : decode cX9_readDoor 42 = .ok (.if_icmp .gt 29, 3) := by decide +kernel
theorem dX9_readDoor_45 : decode cX9_readDoor 45 = .ok (.aload_n 0, 1) := by decide +kernel
theorem dX9_readDoor_46 : decode cX9_readDoor 46 = .ok (.getfield 37, 3) := by decide +kernel
theorem dX9_readDoor_49 : decode cX9_readDoor 49 = .ok (.iconst 3, 1) := by decide +kernel
theorem dX9_readDoor_50 : decode cX9_readDoor 50 = .ok (.if_icmp .eq 21, 3) := by decide +kernel
theorem dX9_readDoor_53 : decode cX9_readDoor 53 = .ok (.aload_n 0, 1) := by decide +kernel
theorem dX9_readDoor_54 : decode cX9_readDoor 54 = .ok (.aload_n 1, 1) := by decide +kernel
theorem dX9_readDoor_55 : decode cX9_readDoor 55 = .ok (.iload_n 2, 1) := by decide +kernel
theorem dX9_readDoor_56 : decode cX9_readDoor 56 = .ok (.iload_n 3, 1) := by decide +kernel
theorem dX9_readDoor_57 : decode cX9_readDoor 57 = .ok (.invokevirtual 71, 3) := by decide +kernel
theorem dX9_readDoor_60 : decode cX9_readDoor 60 = .ok (.ifCond .ne 5, 3) := by decide +kernel
theorem dX9_readDoor_63 : decode cX9_readDoor 63 = .ok (.iconst 0, 1) := by decide +kernel
theorem dX9_readDoor_64 : decode cX9_readDoor 64 = .ok (.ireturn, 1) := by decide +kernel
theorem dX9_readDoor_65 : decode cX9_readDoor 65 = .ok (.iinc 3 1, 3) := by decide +kernel
theorem dX9_readDoor_68 : decode cX9_readDoor 68 = .ok (.goto (-29), 3) := by decide +kernel
theorem dX9_readDoor_71 : decode cX9_readDoor 71 = .ok (.aload_n 0, 1) := by decide +kernel
theorem dX9_readDoor_72 : decode cX9_readDoor 72 = .ok (.invokevirtual 75, 3) := by decide +kernel
theorem dX9_readDoor_75 : decode cX9_readDoor 75 = .ok (.ireturn, 1) := by decide +kernel
theorem dX9_readAsk_0 : decode cX9_readAsk 0 = .ok (.aload_n 0, 1) := by decide +kernel
theorem dX9_readAsk_1 : decode cX9_readAsk 1 = .ok (.ldc 79, 2) := by decide +kernel
theorem dX9_readAsk_3 : decode cX9_readAsk 3 = .ok (.invokevirtual 42, 3) := by decide +kernel
theorem dX9_readAsk_6 : decode cX9_readAsk 6 = .ok (.ifCond .eq 7, 3) := by decide +kernel
theorem dX9_readAsk_9 : decode cX9_readAsk 9 = .ok (.iconst 0, 1) := by decide +kernel
theorem dX9_readAsk_10 : decode cX9_readAsk 10 = .ok (.goto 31, 3) := by decide +kernel
theorem dX9_readAsk_13 : decode cX9_readAsk 13 = .ok (.aload_n 0, 1) := by decide +kernel
theorem dX9_readAsk_14 : decode cX9_readAsk 14 = .ok (.ldc 81, 2) := by decide +kernel
theorem dX9_readAsk_16 : decode cX9_readAsk 16 = .ok (.invokevirtual 42, 3) := by decide +kernel
theorem dX9_readAsk_19 : decode cX9_readAsk 19 = .ok (.ifCond .eq 7, 3) := by decide +kernel
theorem dX9_readAsk_22 : decode cX9_readAsk 22 = .ok (.iconst 1, 1) := by decide +kernel
theorem dX9_readAsk_23 : decode cX9_readAsk 23 = .ok (.goto 18, 3) := by decide +kernel
theorem dX9_readAsk_26 : decode cX9_readAsk 26 = .ok (.aload_n 0, 1) := by decide +kernel
theorem dX9_readAsk_27 : decode cX9_readAsk 27 = .ok (.ldc 83, 2) := by decide +kernel
theorem dX9_readAsk_29 : decode cX9_readAsk 29 = .ok (.invokevirtual 42, 3) := by decide +kernel
theorem dX9_readAsk_32 : decode cX9_readAsk 32 = .ok (.ifCond .eq 7, 3) := by decide +kernel
theorem dX9_readAsk_35 : decode cX9_readAsk 35 = .ok (.iconst 2, 1) := by decide +kernel
theorem dX9_readAsk_36 : decode cX9_readAsk 36 = .ok (.goto 5, 3) := by decide +kernel
theorem dX9_readAsk_39 : decode cX9_readAsk 39 = .ok (.ldc 85, 2) := by decide +kernel
theorem dX9_readAsk_41 : decode cX9_readAsk 41 = .ok (.istore 4, 2) := by decide +kernel
theorem dX9_readAsk_43 : decode cX9_readAsk 43 = .ok (.iload 4, 2) := by decide +kernel
theorem dX9_readAsk_45 : decode cX9_readAsk 45 = .ok (.ldc 85, 2) := by decide +kernel
theorem dX9_readAsk_47 : decode cX9_readAsk 47 = .ok (.if_icmp .ne 9, 3) := by decide +kernel
theorem dX9_readAsk_50 : decode cX9_readAsk 50 = .ok (.aload_n 0, 1) := by decide +kernel
theorem dX9_readAsk_51 : decode cX9_readAsk 51 = .ok (.iconst 1, 1) := by decide +kernel
theorem dX9_readAsk_52 : decode cX9_readAsk 52 = .ok (.invokevirtual 55, 3) := by decide +kernel
theorem dX9_readAsk_55 : decode cX9_readAsk 55 = .ok (.ireturn, 1) := by decide +kernel
theorem dX9_readAsk_56 : decode cX9_readAsk 56 = .ok (.iload_n 3, 1) := by decide +kernel
theorem dX9_readAsk_57 : decode cX9_readAsk 57 = .ok (.bipush 8, 2) := by decide +kernel
theorem dX9_readAsk_59 : decode cX9_readAsk 59 = .ok (.if_icmp .lt 9, 3) := by decide +kernel
theorem dX9_readAsk_62 : decode cX9_readAsk 62 = .ok (.aload_n 0, 1) := by decide +kernel
theorem dX9_readAsk_63 : decode cX9_readAsk 63 = .ok (.iconst 3, 1) := by decide +kernel
theorem dX9_readAsk_64 : decode cX9_readAsk 64 = .ok (.invokevirtual 55, 3) := by decide +kernel
theorem dX9_readAsk_67 : decode cX9_readAsk 67 = .ok (.ireturn, 1) := by decide +kernel
theorem dX9_readAsk_68 : decode cX9_readAsk 68 = .ok (.aload_n 0, 1) := by decide +kernel
theorem dX9_readAsk_69 : decode cX9_readAsk 69 = .ok (.invokevirtual 34, 3) := by decide +kernel
theorem dX9_readAsk_72 : decode cX9_readAsk 72 = .ok (.aload_n 0, 1) := by decide +kernel
theorem dX9_readAsk_73 : decode cX9_readAsk 73 = .ok (.iload 4, 2) := by decide +kernel
theorem dX9_readAsk_75 : decode cX9_readAsk 75 = .ok (.ifCond .ne 7, 3) := by decide +kernel
theorem dX9_readAsk_78 : decode cX9_readAsk 78 = .ok (.iconst 3, 1) := by decide +kernel
theorem dX9_readAsk_79 : decode cX9_readAsk 79 = .ok (.goto 4, 3) := by decide +kernel
theorem dX9_readAsk_82 : decode cX9_readAsk 82 = .ok (.iconst 3, 1) := by decide +kernel
theorem dX9_readAsk_83 : decode cX9_readAsk 83 = .ok (.invokevirtual 59, 3) := by decide +kernel
theorem dX9_readAsk_86 : decode cX9_readAsk 86 = .ok (.ifCond .ne 5, 3) := by decide +kernel
theorem dX9_readAsk_89 : decode cX9_readAsk 89 = .ok (.iconst 0, 1) := by decide +kernel
theorem dX9_readAsk_90 : decode cX9_readAsk 90 = .ok (.ireturn, 1) := by decide +kernel
theorem dX9_readAsk_91 : decode cX9_readAsk 91 = .ok (.aload_n 0, 1) := by decide +kernel
theorem dX9_readAsk_92 : decode cX9_readAsk 92 = .ok (.getfield 62, 3) := by decide +kernel
theorem dX9_readAsk_95 : decode cX9_readAsk 95 = .ok (.istore 5, 2) := by decide +kernel
theorem dX9_readAsk_97 : decode cX9_readAsk 97 = .ok (.iconst 0, 1) := by decide +kernel
theorem dX9_readAsk_98 : decode cX9_readAsk 98 = .ok (.istore 6, 2) := by decide +kernel
theorem dX9_readAsk_100 : decode cX9_readAsk 100 = .ok (.iload 4, 2) := by decide +kernel
theorem dX9_readAsk_102 : decode cX9_readAsk 102 = .ok (.iconst 2, 1) := by decide +kernel
theorem dX9_readAsk_103 : decode cX9_readAsk 103 = .ok (.if_icmp .ne 25, 3) := by decide +kernel
theorem dX9_readAsk_106 : decode cX9_readAsk 106 = .ok (.aload_n 0, 1) := by decide +kernel
theorem dX9_readAsk_107 : decode cX9_readAsk 107 = .ok (.invokevirtual 34, 3) := by decide +kernel
theorem dX9_readAsk_110 : decode cX9_readAsk 110 = .ok (.aload_n 0, 1) := by decide +kernel
theorem dX9_readAsk_111 : decode cX9_readAsk 111 = .ok (.sipush 999, 3) := by decide +kernel
theorem dX9_readAsk_114 : decode cX9_readAsk 114 = .ok (.invokevirtual 59, 3) := by decide +kernel
theorem dX9_readAsk_117 : decode cX9_readAsk 117 = .ok (.ifCond .ne 5, 3) := by decide +kernel
theorem dX9_readAsk_120 : decode cX9_readAsk 120 = .ok (.iconst 0, 1) := by decide +kernel
theorem dX9_readAsk_121 : decode cX9_readAsk 121 = .ok (.ireturn, 1) := by decide +kernel
theorem dX9_readAsk_122 : decode cX9_readAsk 122 = .ok (.aload_n 0, 1) := by decide +kernel
theorem dX9_readAsk_123 : decode cX9_readAsk 123 = .ok (.getfield 62, 3) := by decide +kernel
theorem dX9_readAsk_126 : decode cX9_readAsk 126 = .ok (.istore 6, 2) := by decide +kernel
theorem dX9_readAsk_128 : decode cX9_readAsk 128 = .ok (.aload_n 0, 1) := by decide +kernel
theorem dX9_readAsk_129 : decode cX9_readAsk 129 = .ok (.getfield 19, 3) := by decide +kernel
theorem dX9_readAsk_132 : decode cX9_readAsk 132 = .ok (.ifCond .eq 14, 3) := by decide +kernel
theorem dX9_readAsk_135 : decode cX9_readAsk 135 = .ok (.aload_n 1, 1) := by decide +kernel
theorem dX9_readAsk_136 : decode cX9_readAsk 136 = .ok (.iload_n 2, 1) := by decide +kernel
theorem dX9_readAsk_137 : decode cX9_readAsk 137 = .ok (.iload 4, 2) := by decide +kernel
theorem dX9_readAsk_139 : decode cX9_readAsk 139 = .ok (.iload 5, 2) := by decide +kernel
theorem dX9_readAsk_141 : decode cX9_readAsk 141 = .ok (.iload 6, 2) := by decide +kernel
theorem dX9_readAsk_143 : decode cX9_readAsk 143 = .ok (.invokevirtual 86, 3) := by decide +kernel
theorem dX9_readAsk_146 : decode cX9_readAsk 146 = .ok (.aload_n 0, 1) := by decide +kernel
theorem dX9_readAsk_147 : decode cX9_readAsk 147 = .ok (.invokevirtual 34, 3) := by decide +kernel
theorem dX9_readAsk_150 : decode cX9_readAsk 150 = .ok (.iconst 1, 1) := by decide +kernel
theorem dX9_readAsk_151 : decode cX9_readAsk 151 = .ok (.ireturn, 1) := by decide +kernel
theorem dX9_readRight_0 : decode cX9_readRight 0 = .ok (.aload_n 0, 1) := by decide +kernel
theorem dX9_readRight_1 : decode cX9_readRight 1 = .ok (.invokevirtual 34, 3) := by decide +kernel
theorem dX9_readRight_4 : decode cX9_readRight 4 = .ok (.aload_n 0, 1) := by decide +kernel
theorem dX9_readRight_5 : decode cX9_readRight 5 = .ok (.iconst 3, 1) := by decide +kernel
theorem dX9_readRight_6 : decode cX9_readRight 6 = .ok (.invokevirtual 59, 3) := by decide +kernel
theorem dX9_readRight_9 : decode cX9_readRight 9 = .ok (.ifCond .ne 5, 3) := by decide +kernel
theorem dX9_readRight_12 : decode cX9_readRight 12 = .ok (.iconst 0, 1) := by decide +kernel
theorem dX9_readRight_13 : decode cX9_readRight 13 = .ok (.ireturn, 1) := by decide +kernel
theorem dX9_readRight_14 : decode cX9_readRight 14 = .ok (.aload_n 0, 1) := by decide +kernel
theorem dX9_readRight_15 : decode cX9_readRight 15 = .ok (.getfield 62, 3) := by decide +kernel
theorem dX9_readRight_18 : decode cX9_readRight 18 = .ok (.istore_n 2, 1) := by decide +kernel
theorem dX9_readRight_19 : decode cX9_readRight 19 = .ok (.iconst 0, 1) := by decide +kernel
theorem dX9_readRight_20 : decode cX9_readRight 20 = .ok (.istore_n 3, 1) := by decide +kernel
theorem dX9_readRight_21 : decode cX9_readRight 21 = .ok (.aload_n 0, 1) := by decide +kernel
theorem dX9_readRight_22 : decode cX9_readRight 22 = .ok (.invokevirtual 34, 3) := by decide +kernel
theorem dX9_readRight_25 : decode cX9_readRight 25 = .ok (.iconst 0, 1) := by decide +kernel
theorem dX9_readRight_26 : decode cX9_readRight 26 = .ok (.istore 4, 2) := by decide +kernel
theorem dX9_readRight_28 : decode cX9_readRight 28 = .ok (.iload 4, 2) := by decide +kernel
theorem dX9_readRight_30 : decode cX9_readRight 30 = .ok (.sipush 300, 3) := by decide +kernel
theorem dX9_readRight_33 : decode cX9_readRight 33 = .ok (.if_icmp .gt 40, 3) := by decide +kernel
theorem dX9_readRight_36 : decode cX9_readRight 36 = .ok (.aload_n 0, 1) := by decide +kernel
theorem dX9_readRight_37 : decode cX9_readRight 37 = .ok (.getfield 37, 3) := by decide +kernel
theorem dX9_readRight_40 : decode cX9_readRight 40 = .ok (.iconst 2, 1) := by decide +kernel
theorem dX9_readRight_41 : decode cX9_readRight 41 = .ok (.if_icmp .ne 32, 3) := by decide +kernel
theorem dX9_readRight_44 : decode cX9_readRight 44 = .ok (.aload_n 0, 1) := by decide +kernel
theorem dX9_readRight_45 : decode cX9_readRight 45 = .ok (.iconst 3, 1) := by decide +kernel
theorem dX9_readRight_46 : decode cX9_readRight 46 = .ok (.invokevirtual 59, 3) := by decide +kernel
theorem dX9_readRight_49 : decode cX9_readRight 49 = .ok (.ifCond .ne 5, 3) := by decide +kernel
theorem dX9_readRight_52 : decode cX9_readRight 52 = .ok (.iconst 0, 1) := by decide +kernel
theorem dX9_readRight_53 : decode cX9_readRight 53 = .ok (.ireturn, 1) := by decide +kernel
theorem dX9_readRight_54 : decode cX9_readRight 54 = .ok (.iload_n 3, 1) := by decide +kernel
theorem dX9_readRight_55 : decode cX9_readRight 55 = .ok (.iconst 1, 1) := by decide +kernel
theorem dX9_readRight_56 : decode cX9_readRight 56 = .ok (.aload_n 0, 1) := by decide +kernel
theorem dX9_readRight_57 : decode cX9_readRight 57 = .ok (.getfield 62, 3) := by decide +kernel
theorem dX9_readRight_60 : decode cX9_readRight 60 = .ok (.ishl, 1) := by decide +kernel
theorem dX9_readRight_61 : decode cX9_readRight 61 = .ok (.ior, 1) := by decide +kernel
theorem dX9_readRight_62 : decode cX9_readRight 62 = .ok (.istore_n 3, 1) := by decide +kernel
theorem dX9_readRight_63 : decode cX9_readRight 63 = .ok (.aload_n 0, 1) := by decide +kernel
theorem dX9_readRight_64 : decode cX9_readRight 64 = .ok (.invokevirtual 34, 3) := by decide +kernel
theorem dX9_readRight_67 : decode cX9_readRight 67 = .ok (.iinc 4 1, 3) := by decide +kernel
theorem dX9_readRight_70 : decode cX9_readRight 70 = .ok (.goto (-42), 3) := by decide +kernel
theorem dX9_readRight_73 : decode cX9_readRight 73 = .ok (.aload_n 0, 1) := by decide +kernel
theorem dX9_readRight_74 : decode cX9_readRight 74 = .ok (.getfield 19, 3) := by decide +kernel
theorem dX9_readRight_77 : decode cX9_readRight 77 = .ok (.ifCond .eq 10, 3) := by decide +kernel
theorem dX9_readRight_80 : decode cX9_readRight 80 = .ok (.aload_n 1, 1) := by decide +kernel
theorem dX9_readRight_81 : decode cX9_readRight 81 = .ok (.getfield 90, 3) := by decide +kernel
theorem dX9_readRight_84 : decode cX9_readRight 84 = .ok (.iload_n 2, 1) := by decide +kernel
theorem dX9_readRight_85 : decode cX9_readRight 85 = .ok (.iload_n 3, 1) := by decide +kernel
theorem dX9_readRight_86 : decode cX9_readRight 86 = .ok (.iastore, 1) := by decide +kernel
theorem dX9_readRight_87 : decode cX9_readRight 87 = .ok (.aload_n 0, 1) := by decide +kernel
theorem dX9_readRight_88 : decode cX9_readRight 88 = .ok (.invokevirtual 75, 3) := by decide +kernel
theorem dX9_readRight_91 : decode cX9_readRight 91 = .ok (.ireturn, 1) := by decide +kernel
theorem dX9_expectNumber_0 : decode cX9_expectNumber 0 = .ok (.aload_n 0, 1) := by decide +kernel
theorem dX9_expectNumber_1 : decode cX9_expectNumber 1 = .ok (.getfield 37, 3) := by decide +kernel
theorem dX9_expectNumber_4 : decode cX9_expectNumber 4 = .ok (.iconst 2, 1) := by decide +kernel
theorem dX9_expectNumber_5 : decode cX9_expectNumber 5 = .ok (.if_icmp .eq 9, 3) := by decide +kernel
theorem dX9_expectNumber_8 : decode cX9_expectNumber 8 = .ok (.aload_n 0, 1) := by decide +kernel
theorem dX9_expectNumber_9 : decode cX9_expectNumber 9 = .ok (.iconst 1, 1) := by decide +kernel
theorem dX9_expectNumber_10 : decode cX9_expectNumber 10 = .ok (.invokevirtual 55, 3) := by decide +kernel
theorem dX9_expectNumber_13 : decode cX9_expectNumber 13 = .ok (.ireturn, 1) := by decide +kernel
theorem dX9_expectNumber_14 : decode cX9_expectNumber 14 = .ok (.aload_n 0, 1) := by decide +kernel
theorem dX9_expectNumber_15 : decode cX9_expectNumber 15 = .ok (.getfield 62, 3) := by decide +kernel
theorem dX9_expectNumber_18 : decode cX9_expectNumber 18 = .ok (.iload_n 1, 1) := by decide +kernel
theorem dX9_expectNumber_19 : decode cX9_expectNumber 19 = .ok (.if_icmp .le 11, 3) := by decide +kernel
theorem dX9_expectNumber_22 : decode cX9_expectNumber 22 = .ok (.aload_n 0, 1) := by decide +kernel
theorem dX9_expectNumber_23 : decode cX9_expectNumber 23 = .ok (.iconst 2, 1) := by decide +kernel
theorem dX9_expectNumber_24 : decode cX9_expectNumber 24 = .ok (.invokevirtual 55, 3) := by decide +kernel
theorem dX9_expectNumber_27 : decode cX9_expectNumber 27 = .ok (.ifCond .eq 7, 3) := by decide +kernel
theorem dX9_expectNumber_30 : decode cX9_expectNumber 30 = .ok (.iconst 1, 1) := by decide +kernel
theorem dX9_expectNumber_31 : decode cX9_expectNumber 31 = .ok (.goto 4, 3) := by decide +kernel
theorem dX9_expectNumber_34 : decode cX9_expectNumber 34 = .ok (.iconst 0, 1) := by decide +kernel
theorem dX9_expectNumber_35 : decode cX9_expectNumber 35 = .ok (.ireturn, 1) := by decide +kernel
theorem dX9_expectStop_0 : decode cX9_expectStop 0 = .ok (.aload_n 0, 1) := by decide +kernel
theorem dX9_expectStop_1 : decode cX9_expectStop 1 = .ok (.getfield 37, 3) := by decide +kernel
theorem dX9_expectStop_4 : decode cX9_expectStop 4 = .ok (.iconst 3, 1) := by decide +kernel
theorem dX9_expectStop_5 : decode cX9_expectStop 5 = .ok (.if_icmp .eq 9, 3) := by decide +kernel
theorem dX9_expectStop_8 : decode cX9_expectStop 8 = .ok (.aload_n 0, 1) := by decide +kernel
theorem dX9_expectStop_9 : decode cX9_expectStop 9 = .ok (.iconst 1, 1) := by decide +kernel
theorem dX9_expectStop_10 : decode cX9_expectStop 10 = .ok (.invokevirtual 55, 3) := by decide +kernel
theorem dX9_expectStop_13 : decode cX9_expectStop 13 = .ok (.ireturn, 1) := by decide +kernel
theorem dX9_expectStop_14 : decode cX9_expectStop 14 = .ok (.aload_n 0, 1) := by decide +kernel
theorem dX9_expectStop_15 : decode cX9_expectStop 15 = .ok (.invokevirtual 34, 3) := by decide +kernel
theorem dX9_expectStop_18 : decode cX9_expectStop 18 = .ok (.iconst 1, 1) := by decide +kernel
theorem dX9_expectStop_19 : decode cX9_expectStop 19 = .ok (.ireturn, 1) := by decide +kernel
theorem dX9_fail_0 : decode cX9_fail 0 = .ok (.aload_n 0, 1) := by decide +kernel
theorem dX9_fail_1 : decode cX9_fail 1 = .ok (.iload_n 1, 1) := by decide +kernel
theorem dX9_fail_2 : decode cX9_fail 2 = .ok (.putfield 93, 3) := by decide +kernel
theorem dX9_fail_5 : decode cX9_fail 5 = .ok (.aload_n 0, 1) := by decide +kernel
theorem dX9_fail_6 : decode cX9_fail 6 = .ok (.aload_n 0, 1) := by decide +kernel
theorem dX9_fail_7 : decode cX9_fail 7 = .ok (.getfield 96, 3) := by decide +kernel
theorem dX9_fail_10 : decode cX9_fail 10 = .ok (.putfield 28, 3) := by decide +kernel
theorem dX9_fail_13 : decode cX9_fail 13 = .ok (.iconst 0, 1) := by decide +kernel
theorem dX9_fail_14 : decode cX9_fail 14 = .ok (.ireturn, 1) := by decide +kernel
theorem dX9_advance_0 : decode cX9_advance 0 = .ok (.aload_n 0, 1) := by decide +kernel
theorem dX9_advance_1 : decode cX9_advance 1 = .ok (.getfield 31, 3) := by decide +kernel
theorem dX9_advance_4 : decode cX9_advance 4 = .ok (.aload_n 0, 1) := by decide +kernel
theorem dX9_advance_5 : decode cX9_advance 5 = .ok (.getfield 15, 3) := by decide +kernel
theorem dX9_advance_8 : decode cX9_advance 8 = .ok (.if_icmp .ge 44, 3) := by decide +kernel
theorem dX9_advance_11 : decode cX9_advance 11 = .ok (.aload_n 0, 1) := by decide +kernel
theorem dX9_advance_12 : decode cX9_advance 12 = .ok (.getfield 11, 3) := by decide +kernel
theorem dX9_advance_15 : decode cX9_advance 15 = .ok (.aload_n 0, 1) := by decide +kernel
theorem dX9_advance_16 : decode cX9_advance 16 = .ok (.getfield 31, 3) := by decide +kernel
theorem dX9_advance_19 : decode cX9_advance 19 = .ok (.baload, 1) := by decide +kernel
theorem dX9_advance_20 : decode cX9_advance 20 = .ok (.bipush 32, 2) := by decide +kernel
theorem dX9_advance_22 : decode cX9_advance 22 = .ok (.if_icmp .eq 17, 3) := by decide +kernel
theorem dX9_advance_25 : decode cX9_advance 25 = .ok (.aload_n 0, 1) := by decide +kernel
theorem dX9_advance_26 : decode cX9_advance 26 = .ok (.getfield 11, 3) := by decide +kernel
theorem dX9_advance_29 : decode cX9_advance 29 = .ok (.aload_n 0, 1) := by decide +kernel
theorem dX9_advance_30 : decode cX9_advance 30 = .ok (.getfield 31, 3) := by decide +kernel
theorem dX9_advance_33 : decode cX9_advance 33 = .ok (.baload, 1) := by decide +kernel
theorem dX9_advance_34 : decode cX9_advance 34 = .ok (.bipush 10, 2) := by decide +kernel
theorem dX9_advance_36 : decode cX9_advance 36 = .ok (.if_icmp .ne 16, 3) := by decide +kernel
theorem dX9_advance_39 : decode cX9_advance 39 = .ok (.aload_n 0, 1) := by decide +kernel
theorem dX9_advance_40 : decode cX9_advance 40 = .ok (.dup, 1) := by decide +kernel
theorem dX9_advance_41 : decode cX9_advance 41 = .ok (.getfield 31, 3) := by decide +kernel
theorem dX9_advance_44 : decode cX9_advance 44 = .ok (.iconst 1, 1) := by decide +kernel
theorem dX9_advance_45 : decode cX9_advance 45 = .ok (.iadd, 1) := by decide +kernel
theorem dX9_advance_46 : decode cX9_advance 46 = .ok (.putfield 31, 3) := by decide +kernel
theorem dX9_advance_49 : decode cX9_advance 49 = .ok (.goto (-49), 3) := by decide +kernel
theorem dX9_advance_52 : decode cX9_advance 52 = .ok (.aload_n 0, 1) := by decide +kernel
theorem dX9_advance_53 : decode cX9_advance 53 = .ok (.aload_n 0, 1) := by decide +kernel
theorem dX9_advance_54 : decode cX9_advance 54 = .ok (.getfield 31, 3) := by decide +kernel
theorem dX9_advance_57 : decode cX9_advance 57 = .ok (.putfield 96, 3) := by decide +kernel
theorem dX9_advance_60 : decode cX9_advance 60 = .ok (.aload_n 0, 1) := by decide +kernel
theorem dX9_advance_61 : decode cX9_advance 61 = .ok (.getfield 31, 3) := by decide +kernel
theorem dX9_advance_64 : decode cX9_advance 64 = .ok (.aload_n 0, 1) := by decide +kernel
theorem dX9_advance_65 : decode cX9_advance 65 = .ok (.getfield 15, 3) := by decide +kernel
theorem dX9_advance_68 : decode cX9_advance 68 = .ok (.if_icmp .lt 11, 3) := by decide +kernel
theorem dX9_advance_71 : decode cX9_advance 71 = .ok (.aload_n 0, 1) := by decide +kernel
theorem dX9_advance_72 : decode cX9_advance 72 = .ok (.iconst 0, 1) := by decide +kernel
theorem dX9_advance_73 : decode cX9_advance 73 = .ok (.putfield 37, 3) := by decide +kernel
theorem dX9_advance_76 : decode cX9_advance 76 = .ok (.goto 80, 3) := by decide +kernel
theorem dX9_advance_79 : decode cX9_advance 79 = .ok (.aload_n 0, 1) := by decide +kernel
theorem dX9_advance_80 : decode cX9_advance 80 = .ok (.getfield 11, 3) := by decide +kernel
theorem dX9_advance_83 : decode cX9_advance 83 = .ok (.aload_n 0, 1) := by decide +kernel
theorem dX9_advance_84 : decode cX9_advance 84 = .ok (.getfield 31, 3) := by decide +kernel
theorem dX9_advance_87 : decode cX9_advance 87 = .ok (.baload, 1) := by decide +kernel
theorem dX9_advance_88 : decode cX9_advance 88 = .ok (.invokestatic 99, 3) := by decide +kernel
theorem dX9_advance_91 : decode cX9_advance 91 = .ok (.ifCond .eq 10, 3) := by decide +kernel
theorem dX9_advance_94 : decode cX9_advance 94 = .ok (.aload_n 0, 1) := by decide +kernel
theorem dX9_advance_95 : decode cX9_advance 95 = .ok (.invokevirtual 103, 3) := by decide +kernel
theorem dX9_advance_98 : decode cX9_advance 98 = .ok (.goto 58, 3) := by decide +kernel
theorem dX9_advance_101 : decode cX9_advance 101 = .ok (.aload_n 0, 1) := by decide +kernel
theorem dX9_advance_102 : decode cX9_advance 102 = .ok (.getfield 11, 3) := by decide +kernel
theorem dX9_advance_105 : decode cX9_advance 105 = .ok (.aload_n 0, 1) := by decide +kernel
theorem dX9_advance_106 : decode cX9_advance 106 = .ok (.getfield 31, 3) := by decide +kernel
theorem dX9_advance_109 : decode cX9_advance 109 = .ok (.baload, 1) := by decide +kernel
theorem dX9_advance_110 : decode cX9_advance 110 = .ok (.invokestatic 106, 3) := by decide +kernel
theorem dX9_advance_113 : decode cX9_advance 113 = .ok (.ifCond .eq 10, 3) := by decide +kernel
theorem dX9_advance_116 : decode cX9_advance 116 = .ok (.aload_n 0, 1) := by decide +kernel
theorem dX9_advance_117 : decode cX9_advance 117 = .ok (.invokevirtual 109, 3) := by decide +kernel
theorem dX9_advance_120 : decode cX9_advance 120 = .ok (.goto 36, 3) := by decide +kernel
theorem dX9_advance_123 : decode cX9_advance 123 = .ok (.aload_n 0, 1) := by decide +kernel
theorem dX9_advance_124 : decode cX9_advance 124 = .ok (.aload_n 0, 1) := by decide +kernel
theorem dX9_advance_125 : decode cX9_advance 125 = .ok (.getfield 11, 3) := by decide +kernel
theorem dX9_advance_128 : decode cX9_advance 128 = .ok (.aload_n 0, 1) := by decide +kernel
theorem dX9_advance_129 : decode cX9_advance 129 = .ok (.getfield 31, 3) := by decide +kernel
theorem dX9_advance_132 : decode cX9_advance 132 = .ok (.baload, 1) := by decide +kernel
theorem dX9_advance_133 : decode cX9_advance 133 = .ok (.bipush 59, 2) := by decide +kernel
theorem dX9_advance_135 : decode cX9_advance 135 = .ok (.if_icmp .ne 7, 3) := by decide +kernel
theorem dX9_advance_138 : decode cX9_advance 138 = .ok (.iconst 3, 1) := by decide +kernel
theorem dX9_advance_139 : decode cX9_advance 139 = .ok (.goto 4, 3) := by decide +kernel
theorem dX9_advance_142 : decode cX9_advance 142 = .ok (.iconst 4, 1) := by decide +kernel
theorem dX9_advance_143 : decode cX9_advance 143 = .ok (.putfield 37, 3) := by decide +kernel
theorem dX9_advance_146 : decode cX9_advance 146 = .ok (.aload_n 0, 1) := by decide +kernel
theorem dX9_advance_147 : decode cX9_advance 147 = .ok (.dup, 1) := by decide +kernel
theorem dX9_advance_148 : decode cX9_advance 148 = .ok (.getfield 31, 3) := by decide +kernel
theorem dX9_advance_151 : decode cX9_advance 151 = .ok (.iconst 1, 1) := by decide +kernel
theorem dX9_advance_152 : decode cX9_advance 152 = .ok (.iadd, 1) := by decide +kernel
theorem dX9_advance_153 : decode cX9_advance 153 = .ok (.putfield 31, 3) := by decide +kernel
theorem dX9_advance_156 : decode cX9_advance 156 = .ok (.return_, 1) := by decide +kernel
theorem dX9_readName_0 : decode cX9_readName 0 = .ok (.aload_n 0, 1) := by decide +kernel
theorem dX9_readName_1 : decode cX9_readName 1 = .ok (.getfield 31, 3) := by decide +kernel
theorem dX9_readName_4 : decode cX9_readName 4 = .ok (.aload_n 0, 1) := by decide +kernel
theorem dX9_readName_5 : decode cX9_readName 5 = .ok (.getfield 15, 3) := by decide +kernel
theorem dX9_readName_8 : decode cX9_readName 8 = .ok (.if_icmp .ge 31, 3) := by decide +kernel
theorem dX9_readName_11 : decode cX9_readName 11 = .ok (.aload_n 0, 1) := by decide +kernel
theorem dX9_readName_12 : decode cX9_readName 12 = .ok (.getfield 11, 3) := by decide +kernel
theorem dX9_readName_15 : decode cX9_readName 15 = .ok (.aload_n 0, 1) := by decide +kernel
theorem dX9_readName_16 : decode cX9_readName 16 = .ok (.getfield 31, 3) := by decide +kernel
theorem dX9_readName_19 : decode cX9_readName 19 = .ok (.baload, 1) := by decide +kernel
theorem dX9_readName_20 : decode cX9_readName 20 = .ok (.invokestatic 99, 3) := by decide +kernel
theorem dX9_readName_23 : decode cX9_readName 23 = .ok (.ifCond .eq 16, 3) := by decide +kernel
theorem dX9_readName_26 : decode cX9_readName 26 = .ok (.aload_n 0, 1) := by decide +kernel
theorem dX9_readName_27 : decode cX9_readName 27 = .ok (.dup, 1) := by decide +kernel
theorem dX9_readName_28 : decode cX9_readName 28 = .ok (.getfield 31, 3) := by decide +kernel
theorem dX9_readName_31 : decode cX9_readName 31 = .ok (.iconst 1, 1) := by decide +kernel
theorem dX9_readName_32 : decode cX9_readName 32 = .ok (.iadd, 1) := by decide +kernel
theorem dX9_readName_33 : decode cX9_readName 33 = .ok (.putfield 31, 3) := by decide +kernel
theorem dX9_readName_36 : decode cX9_readName 36 = .ok (.goto (-36), 3) := by decide +kernel
theorem dX9_readName_39 : decode cX9_readName 39 = .ok (.aload_n 0, 1) := by decide +kernel
theorem dX9_readName_40 : decode cX9_readName 40 = .ok (.iconst 1, 1) := by decide +kernel
theorem dX9_readName_41 : decode cX9_readName 41 = .ok (.putfield 37, 3) := by decide +kernel
theorem dX9_readName_44 : decode cX9_readName 44 = .ok (.return_, 1) := by decide +kernel
theorem dX9_readFigures_0 : decode cX9_readFigures 0 = .ok (.aload_n 0, 1) := by decide +kernel
theorem dX9_readFigures_1 : decode cX9_readFigures 1 = .ok (.iconst 0, 1) := by decide +kernel
theorem dX9_readFigures_2 : decode cX9_readFigures 2 = .ok (.putfield 62, 3) := by decide +kernel
theorem dX9_readFigures_5 : decode cX9_readFigures 5 = .ok (.aload_n 0, 1) := by decide +kernel
theorem dX9_readFigures_6 : decode cX9_readFigures 6 = .ok (.getfield 31, 3) := by decide +kernel
theorem dX9_readFigures_9 : decode cX9_readFigures 9 = .ok (.aload_n 0, 1) := by decide +kernel
theorem dX9_readFigures_10 : decode cX9_readFigures 10 = .ok (.getfield 15, 3) := by decide +kernel
theorem dX9_readFigures_13 : decode cX9_readFigures 13 = .ok (.if_icmp .ge 55, 3) := by decide +kernel
theorem dX9_readFigures_16 : decode cX9_readFigures 16 = .ok (.aload_n 0, 1) := by decide +kernel
theorem dX9_readFigures_17 : decode cX9_readFigures 17 = .ok (.getfield 11, 3) := by decide +kernel
theorem dX9_readFigures_20 : decode cX9_readFigures 20 = .ok (.aload_n 0, 1) := by decide +kernel
theorem dX9_readFigures_21 : decode cX9_readFigures 21 = .ok (.getfield 31, 3) := by decide +kernel
theorem dX9_readFigures_24 : decode cX9_readFigures 24 = .ok (.baload, 1) := by decide +kernel
theorem dX9_readFigures_25 : decode cX9_readFigures 25 = .ok (.invokestatic 106, 3) := by decide +kernel
theorem dX9_readFigures_28 : decode cX9_readFigures 28 = .ok (.ifCond .eq 40, 3) := by decide +kernel
theorem dX9_readFigures_31 : decode cX9_readFigures 31 = .ok (.aload_n 0, 1) := by decide +kernel
theorem dX9_readFigures_32 : decode cX9_readFigures 32 = .ok (.bipush 10, 2) := by decide +kernel
theorem dX9_readFigures_34 : decode cX9_readFigures 34 = .ok (.aload_n 0, 1) := by decide +kernel
theorem dX9_readFigures_35 : decode cX9_readFigures 35 = .ok (.getfield 62, 3) := by decide +kernel
theorem dX9_readFigures_38 : decode cX9_readFigures 38 = .ok (.imul, 1) := by decide +kernel
theorem dX9_readFigures_39 : decode cX9_readFigures 39 = .ok (.aload_n 0, 1) := by decide +kernel
theorem dX9_readFigures_40 : decode cX9_readFigures 40 = .ok (.getfield 11, 3) := by decide +kernel
theorem dX9_readFigures_43 : decode cX9_readFigures 43 = .ok (.aload_n 0, 1) := by decide +kernel
theorem dX9_readFigures_44 : decode cX9_readFigures 44 = .ok (.getfield 31, 3) := by decide +kernel
theorem dX9_readFigures_47 : decode cX9_readFigures 47 = .ok (.baload, 1) := by decide +kernel
theorem dX9_readFigures_48 : decode cX9_readFigures 48 = .ok (.iadd, 1) := by decide +kernel
theorem dX9_readFigures_49 : decode cX9_readFigures 49 = .ok (.bipush 48, 2) := by decide +kernel
theorem dX9_readFigures_51 : decode cX9_readFigures 51 = .ok (.isub, 1) := by decide +kernel
theorem dX9_readFigures_52 : decode cX9_readFigures 52 = .ok (.putfield 62, 3) := by decide +kernel
theorem dX9_readFigures_55 : decode cX9_readFigures 55 = .ok (.aload_n 0, 1) := by decide +kernel
theorem dX9_readFigures_56 : decode cX9_readFigures 56 = .ok (.dup, 1) := by decide +kernel
theorem dX9_readFigures_57 : decode cX9_readFigures 57 = .ok (.getfield 31, 3) := by decide +kernel
theorem dX9_readFigures_60 : decode cX9_readFigures 60 = .ok (.iconst 1, 1) := by decide +kernel
theorem dX9_readFigures_61 : decode cX9_readFigures 61 = .ok (.iadd, 1) := by decide +kernel
theorem dX9_readFigures_62 : decode cX9_readFigures 62 = .ok (.putfield 31, 3) := by decide +kernel
theorem dX9_readFigures_65 : decode cX9_readFigures 65 = .ok (.goto (-60), 3) := by decide +kernel
theorem dX9_readFigures_68 : decode cX9_readFigures 68 = .ok (.aload_n 0, 1) := by decide +kernel
theorem dX9_readFigures_69 : decode cX9_readFigures 69 = .ok (.aload_n 0, 1) := by decide +kernel
theorem dX9_readFigures_70 : decode cX9_readFigures 70 = .ok (.getfield 31, 3) := by decide +kernel
theorem dX9_readFigures_73 : decode cX9_readFigures 73 = .ok (.aload_n 0, 1) := by decide +kernel
theorem dX9_readFigures_74 : decode cX9_readFigures 74 = .ok (.getfield 96, 3) := by decide +kernel
theorem dX9_readFigures_77 : decode cX9_readFigures 77 = .ok (.isub, 1) := by decide +kernel
theorem dX9_readFigures_78 : decode cX9_readFigures 78 = .ok (.iconst 3, 1) := by decide +kernel
theorem dX9_readFigures_79 : decode cX9_readFigures 79 = .ok (.if_icmp .gt 7, 3) := by decide +kernel
theorem dX9_readFigures_82 : decode cX9_readFigures 82 = .ok (.iconst 2, 1) := by decide +kernel
theorem dX9_readFigures_83 : decode cX9_readFigures 83 = .ok (.goto 4, 3) := by decide +kernel
theorem dX9_readFigures_86 : decode cX9_readFigures 86 = .ok (.iconst 4, 1) := by decide +kernel
theorem dX9_readFigures_87 : decode cX9_readFigures 87 = .ok (.putfield 37, 3) := by decide +kernel
theorem dX9_readFigures_90 : decode cX9_readFigures 90 = .ok (.return_, 1) := by decide +kernel
theorem dX9_isLetter_0 : decode cX9_isLetter 0 = .ok (.iload_n 0, 1) := by decide +kernel
theorem dX9_isLetter_1 : decode cX9_isLetter 1 = .ok (.bipush 97, 2) := by decide +kernel
theorem dX9_isLetter_3 : decode cX9_isLetter 3 = .ok (.if_icmp .lt 13, 3) := by decide +kernel
theorem dX9_isLetter_6 : decode cX9_isLetter 6 = .ok (.iload_n 0, 1) := by decide +kernel
theorem dX9_isLetter_7 : decode cX9_isLetter 7 = .ok (.bipush 122, 2) := by decide +kernel
theorem dX9_isLetter_9 : decode cX9_isLetter 9 = .ok (.if_icmp .gt 7, 3) := by decide +kernel
theorem dX9_isLetter_12 : decode cX9_isLetter 12 = .ok (.iconst 1, 1) := by decide +kernel
theorem dX9_isLetter_13 : decode cX9_isLetter 13 = .ok (.goto 4, 3) := by decide +kernel
theorem dX9_isLetter_16 : decode cX9_isLetter 16 = .ok (.iconst 0, 1) := by decide +kernel
theorem dX9_isLetter_17 : decode cX9_isLetter 17 = .ok (.ireturn, 1) := by decide +kernel
theorem dX9_isFigure_0 : decode cX9_isFigure 0 = .ok (.iload_n 0, 1) := by decide +kernel
theorem dX9_isFigure_1 : decode cX9_isFigure 1 = .ok (.bipush 48, 2) := by decide +kernel
theorem dX9_isFigure_3 : decode cX9_isFigure 3 = .ok (.if_icmp .lt 13, 3) := by decide +kernel
theorem dX9_isFigure_6 : decode cX9_isFigure 6 = .ok (.iload_n 0, 1) := by decide +kernel
theorem dX9_isFigure_7 : decode cX9_isFigure 7 = .ok (.bipush 57, 2) := by decide +kernel
theorem dX9_isFigure_9 : decode cX9_isFigure 9 = .ok (.if_icmp .gt 7, 3) := by decide +kernel
theorem dX9_isFigure_12 : decode cX9_isFigure 12 = .ok (.iconst 1, 1) := by decide +kernel
theorem dX9_isFigure_13 : decode cX9_isFigure 13 = .ok (.goto 4, 3) := by decide +kernel
theorem dX9_isFigure_16 : decode cX9_isFigure 16 = .ok (.iconst 0, 1) := by decide +kernel
theorem dX9_isFigure_17 : decode cX9_isFigure 17 = .ok (.ireturn, 1) := by decide +kernel
theorem dX9_isWord_0 : decode cX9_isWord 0 = .ok (.aload_n 0, 1) := by decide +kernel
theorem dX9_isWord_1 : decode cX9_isWord 1 = .ok (.getfield 37, 3) := by decide +kernel
theorem dX9_isWord_4 : decode cX9_isWord 4 = .ok (.iconst 1, 1) := by decide +kernel
theorem dX9_isWord_5 : decode cX9_isWord 5 = .ok (.if_icmp .ne 19, 3) := by decide +kernel
theorem dX9_isWord_8 : decode cX9_isWord 8 = .ok (.aload_n 0, 1) := by decide +kernel
theorem dX9_isWord_9 : decode cX9_isWord 9 = .ok (.getfield 31, 3) := by decide +kernel
theorem dX9_isWord_12 : decode cX9_isWord 12 = .ok (.aload_n 0, 1) := by decide +kernel
theorem dX9_isWord_13 : decode cX9_isWord 13 = .ok (.getfield 96, 3) := by decide +kernel
theorem dX9_isWord_16 : decode cX9_isWord 16 = .ok (.isub, 1) := by decide +kernel
theorem dX9_isWord_17 : decode cX9_isWord 17 = .ok (.aload_n 1, 1) := by decide +kernel
theorem dX9_isWord_18 : decode cX9_isWord 18 = .ok (.invokevirtual 112, 3) := by decide +kernel
theorem dX9_isWord_21 : decode cX9_isWord 21 = .ok (.if_icmp .eq 5, 3) := by decide +kernel
theorem dX9_isWord_24 : decode cX9_isWord 24 = .ok (.iconst 0, 1) := by decide +kernel
theorem dX9_isWord_25 : decode cX9_isWord 25 = .ok (.ireturn, 1) := by decide +kernel
theorem dX9_isWord_26 : decode cX9_isWord 26 = .ok (.iconst 0, 1) := by decide +kernel
theorem dX9_isWord_27 : decode cX9_isWord 27 = .ok (.istore_n 2, 1) := by decide +kernel
theorem dX9_isWord_28 : decode cX9_isWord 28 = .ok (.iload_n 2, 1) := by decide +kernel
theorem dX9_isWord_29 : decode cX9_isWord 29 = .ok (.aload_n 1, 1) := by decide +kernel
theorem dX9_isWord_30 : decode cX9_isWord 30 = .ok (.invokevirtual 112, 3) := by decide +kernel
theorem dX9_isWord_33 : decode cX9_isWord 33 = .ok (.if_icmp .ge 30, 3) := by decide +kernel
theorem dX9_isWord_36 : decode cX9_isWord 36 = .ok (.aload_n 0, 1) := by decide +kernel
theorem dX9_isWord_37 : decode cX9_isWord 37 = .ok (.getfield 11, 3) := by decide +kernel
theorem dX9_isWord_40 : decode cX9_isWord 40 = .ok (.aload_n 0, 1) := by decide +kernel
theorem dX9_isWord_41 : decode cX9_isWord 41 = .ok (.getfield 96, 3) := by decide +kernel
theorem dX9_isWord_44 : decode cX9_isWord 44 = .ok (.iload_n 2, 1) := by decide +kernel
theorem dX9_isWord_45 : decode cX9_isWord 45 = .ok (.iadd, 1) := by decide +kernel
theorem dX9_isWord_46 : decode cX9_isWord 46 = .ok (.baload, 1) := by decide +kernel
theorem dX9_isWord_47 : decode cX9_isWord 47 = .ok (.aload_n 1, 1) := by decide +kernel
theorem dX9_isWord_48 : decode cX9_isWord 48 = .ok (.iload_n 2, 1) := by decide +kernel
theorem dX9_isWord_49 : decode cX9_isWord 49 = .ok (.invokevirtual 118, 3) := by decide +kernel
theorem dX9_isWord_52 : decode cX9_isWord 52 = .ok (.if_icmp .eq 5, 3) := by decide +kernel
theorem dX9_isWord_55 : decode cX9_isWord 55 = .ok (.iconst 0, 1) := by decide +kernel
theorem dX9_isWord_56 : decode cX9_isWord 56 = .ok (.ireturn, 1) := by decide +kernel
theorem dX9_isWord_57 : decode cX9_isWord 57 = .ok (.iinc 2 1, 3) := by decide +kernel
theorem dX9_isWord_60 : decode cX9_isWord 60 = .ok (.goto (-32), 3) := by decide +kernel
theorem dX9_isWord_63 : decode cX9_isWord 63 = .ok (.iconst 1, 1) := by decide +kernel
theorem dX9_isWord_64 : decode cX9_isWord 64 = .ok (.ireturn, 1) := by decide +kernel
