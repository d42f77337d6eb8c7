theorem dX10_init_0 : decode cX10_init 0 = .ok (.aload_n 0, 1) := by decide +kernel
theorem dX10_init_1 : decode cX10_init 1 = .ok (.invokespecial 3, 3) := by decide +kernel
theorem dX10_init_4 : decode cX10_init 4 = .ok (.aload_n 0, 1) := by decide +kernel
theorem dX10_init_5 : decode cX10_init 5 = .ok (.new 9, 3) := by decide +kernel
theorem dX10_init_8 : decode cX10_init 8 = .ok (.dup, 1) := by decide +kernel
theorem dX10_init_9 : decode cX10_init 9 = .ok (.invokespecial 11, 3) := by decide +kernel
theorem dX10_init_12 : decode cX10_init 12 = .ok (.putfield 12, 3) := by decide +kernel
theorem dX10_init_15 : decode cX10_init 15 = .ok (.aload_n 0, 1) := by decide +kernel
theorem dX10_init_16 : decode cX10_init 16 = .ok (.new 16, 3) := by decide +kernel
theorem dX10_init_19 : decode cX10_init 19 = .ok (.dup, 1) := by decide +kernel
theorem dX10_init_20 : decode cX10_init 20 = .ok (.invokespecial 18, 3) := by decide +kernel
theorem dX10_init_23 : decode cX10_init 23 = .ok (.putfield 19, 3) := by decide +kernel
theorem dX10_init_26 : decode cX10_init 26 = .ok (.aload_n 0, 1) := by decide +kernel
theorem dX10_init_27 : decode cX10_init 27 = .ok (.bipush 12, 2) := by decide +kernel
theorem dX10_init_29 : decode cX10_init 29 = .ok (.anewarray 23, 3) := by decide +kernel
theorem dX10_init_32 : decode cX10_init 32 = .ok (.putfield 25, 3) := by decide +kernel
theorem dX10_init_35 : decode cX10_init 35 = .ok (.aload_n 0, 1) := by decide +kernel
theorem dX10_init_36 : decode cX10_init 36 = .ok (.bipush 6, 2) := by decide +kernel
theorem dX10_init_38 : decode cX10_init 38 = .ok (.newarray .int, 2) := by decide +kernel
theorem dX10_init_40 : decode cX10_init 40 = .ok (.putfield 29, 3) := by decide +kernel
theorem dX10_init_43 : decode cX10_init 43 = .ok (.aload_n 0, 1) := by decide +kernel
theorem dX10_init_44 : decode cX10_init 44 = .ok (.new 33, 3) := by decide +kernel
theorem dX10_init_47 : decode cX10_init 47 = .ok (.dup, 1) := by decide +kernel
theorem dX10_init_48 : decode cX10_init 48 = .ok (.invokespecial 35, 3) := by decide +kernel
theorem dX10_init_51 : decode cX10_init 51 = .ok (.putfield 36, 3) := by decide +kernel
theorem dX10_init_54 : decode cX10_init 54 = .ok (.aload_n 0, 1) := by decide +kernel
theorem dX10_init_55 : decode cX10_init 55 = .ok (.new 40, 3) := by decide +kernel
theorem dX10_init_58 : decode cX10_init 58 = .ok (.dup, 1) := by decide +kernel
theorem dX10_init_59 : decode cX10_init 59 = .ok (.invokespecial 42, 3) := by decide +kernel
theorem dX10_init_62 : decode cX10_init 62 = .ok (.putfield 43, 3) := by decide +kernel
theorem dX10_init_65 : decode cX10_init 65 = .ok (.aload_n 0, 1) := by decide +kernel
theorem dX10_init_66 : decode cX10_init 66 = .ok (.new 47, 3) := by decide +kernel
theorem dX10_init_69 : decode cX10_init 69 = .ok (.dup, 1) := by decide +kernel
theorem dX10_init_70 : decode cX10_init 70 = .ok (.invokespecial 49, 3) := by decide +kernel
theorem dX10_init_73 : decode cX10_init 73 = .ok (.putfield 50, 3) := by decide +kernel
theorem dX10_init_76 : decode cX10_init 76 = .ok (.aload_n 0, 1) := by decide +kernel
theorem dX10_init_77 : decode cX10_init 77 = .ok (.new 54, 3) := by decide +kernel
theorem dX10_init_80 : decode cX10_init 80 = .ok (.dup, 1) := by decide +kernel
theorem dX10_init_81 : decode cX10_init 81 = .ok (.invokespecial 56, 3) := by decide +kernel
theorem dX10_init_84 : decode cX10_init 84 = .ok (.putfield 57, 3) := by decide +kernel
theorem dX10_init_87 : decode cX10_init 87 = .ok (.aload_n 0, 1) := by decide +kernel
theorem dX10_init_88 : decode cX10_init 88 = .ok (.new 61, 3) := by decide +kernel
theorem dX10_init_91 : decode cX10_init 91 = .ok (.dup, 1) := by decide +kernel
theorem dX10_init_92 : decode cX10_init 92 = .ok (.invokespecial 63, 3) := by decide +kernel
theorem dX10_init_95 : decode cX10_init 95 = .ok (.putfield 64, 3) := by decide +kernel
theorem dX10_init_98 : decode cX10_init 98 = .ok (.aload_n 0, 1) := by decide +kernel
theorem dX10_init_99 : decode cX10_init 99 = .ok (.new 68, 3) := by decide +kernel
theorem dX10_init_102 : decode cX10_init 102 = .ok (.dup, 1) := by decide +kernel
theorem dX10_init_103 : decode cX10_init 103 = .ok (.invokespecial 70, 3) := by decide +kernel
theorem dX10_init_106 : decode cX10_init 106 = .ok (.putfield 71, 3) := by decide +kernel
theorem dX10_init_109 : decode cX10_init 109 = .ok (.aload_n 0, 1) := by decide +kernel
theorem dX10_init_110 : decode cX10_init 110 = .ok (.new 75, 3) := by decide +kernel
theorem dX10_init_113 : decode cX10_init 113 = .ok (.dup, 1) := by decide +kernel
theorem dX10_init_114 : decode cX10_init 114 = .ok (.invokespecial 77, 3) := by decide +kernel
theorem dX10_init_117 : decode cX10_init 117 = .ok (.putfield 78, 3) := by decide +kernel
theorem dX10_init_120 : decode cX10_init 120 = .ok (.aload_n 0, 1) := by decide +kernel
theorem dX10_init_121 : decode cX10_init 121 = .ok (.iconst 4, 1) := by decide +kernel
theorem dX10_init_122 : decode cX10_init 122 = .ok (.newarray .int, 2) := by decide +kernel
theorem dX10_init_124 : decode cX10_init 124 = .ok (.putfield 82, 3) := by decide +kernel
theorem dX10_init_127 : decode cX10_init 127 = .ok (.iconst 0, 1) := by decide +kernel
theorem dX10_init_128 : decode cX10_init 128 = .ok (.istore_n 1, 1) := by decide +kernel
theorem dX10_init_129 : decode cX10_init 129 = .ok (.iload_n 1, 1) := by decide +kernel
theorem dX10_init_130 : decode cX10_init 130 = .ok (.bipush 6, 2) := by decide +kernel
theorem dX10_init_132 : decode cX10_init 132 = .ok (.if_icmp .ge 18, 3) := by decide +kernel
theorem dX10_init_135 : decode cX10_init 135 = .ok (.aload_n 0, 1) := by decide +kernel
theorem dX10_init_136 : decode cX10_init 136 = .ok (.getfield 29, 3) := by decide +kernel
theorem dX10_init_139 : decode cX10_init 139 = .ok (.iload_n 1, 1) := by decide +kernel
theorem dX10_init_140 : decode cX10_init 140 = .ok (.iload_n 1, 1) := by decide +kernel
theorem dX10_init_141 : decode cX10_init 141 = .ok (.iconst 2, 1) := by decide +kernel
theorem dX10_init_142 : decode cX10_init 142 = .ok (.iadd, 1) := by decide +kernel
theorem dX10_init_143 : decode cX10_init 143 = .ok (.iastore, 1) := by decide +kernel
theorem dX10_init_144 : decode cX10_init 144 = .ok (.iinc 1 1, 3) := by decide +kernel
theorem dX10_init_147 : decode cX10_init 147 = .ok (.goto (-18), 3) := by decide +kernel
theorem dX10_init_150 : decode cX10_init 150 = .ok (.return_, 1) := by decide +kernel
theorem dX10_sheet_0 : decode cX10_sheet 0 = .ok (.iload_n 1, 1) := by decide +kernel
theorem dX10_sheet_1 : decode cX10_sheet 1 = .ok (.invokestatic 85, 3) := by decide +kernel
theorem dX10_sheet_4 : decode cX10_sheet 4 = .ok (.ifCond .eq 18, 3) := by decide +kernel
theorem dX10_sheet_7 : decode cX10_sheet 7 = .ok (.iload_n 2, 1) := by decide +kernel
theorem dX10_sheet_8 : decode cX10_sheet 8 = .ok (.iconst 0, 1) := by decide +kernel
theorem dX10_sheet_9 : decode cX10_sheet 9 = .ok (.iconst 2, 1) := by decide +kernel
theorem dX10_sheet_10 : decode cX10_sheet 10 = .ok (.invokestatic 89, 3) := by decide +kernel
theorem dX10_sheet_13 : decode cX10_sheet 13 = .ok (.ifCond .eq 9, 3) := by decide +kernel
theorem dX10_sheet_16 : decode cX10_sheet 16 = .ok (.iload_n 3, 1) := by decide +kernel
theorem dX10_sheet_17 : decode cX10_sheet 17 = .ok (.bipush 60, 2) := by decide +kernel
theorem dX10_sheet_19 : decode cX10_sheet 19 = .ok (.if_icmp .le 6, 3) := by decide +kernel
theorem dX10_sheet_22 : decode cX10_sheet 22 = .ok (.ldc 93, 2) := by decide +kernel
theorem dX10_sheet_24 : decode cX10_sheet 24 = .ok (.ireturn, 1) := by decide +kernel
theorem dX10_sheet_25 : decode cX10_sheet 25 = .ok (.iload_n 3, 1) := by decide +kernel
theorem dX10_sheet_26 : decode cX10_sheet 26 = .ok (.ifCond .ge 9, 3) := by decide +kernel
theorem dX10_sheet_29 : decode cX10_sheet 29 = .ok (.aload_n 0, 1) := by decide +kernel
theorem dX10_sheet_30 : decode cX10_sheet 30 = .ok (.iconst 4, 1) := by decide +kernel
theorem dX10_sheet_31 : decode cX10_sheet 31 = .ok (.invokevirtual 94, 3) := by decide +kernel
theorem dX10_sheet_34 : decode cX10_sheet 34 = .ok (.ireturn, 1) := by decide +kernel
theorem dX10_sheet_35 : decode cX10_sheet 35 = .ok (.aload_n 0, 1) := by decide +kernel
theorem dX10_sheet_36 : decode cX10_sheet 36 = .ok (.getfield 12, 3) := by decide +kernel
theorem dX10_sheet_39 : decode cX10_sheet 39 = .ok (.iload_n 1, 1) := by decide +kernel
theorem dX10_sheet_40 : decode cX10_sheet 40 = .ok (.iload_n 2, 1) := by decide +kernel
theorem dX10_sheet_41 : decode cX10_sheet 41 = .ok (.iload_n 3, 1) := by decide +kernel
theorem dX10_sheet_42 : decode cX10_sheet 42 = .ok (.invokevirtual 98, 3) := by decide +kernel
theorem dX10_sheet_45 : decode cX10_sheet 45 = .ok (.aload_n 0, 1) := by decide +kernel
theorem dX10_sheet_46 : decode cX10_sheet 46 = .ok (.iload_n 3, 1) := by decide +kernel
theorem dX10_sheet_47 : decode cX10_sheet 47 = .ok (.invokevirtual 102, 3) := by decide +kernel
theorem dX10_sheet_50 : decode cX10_sheet 50 = .ok (.ireturn, 1) := by decide +kernel
theorem dX10_set_0 : decode cX10_set 0 = .ok (.iload_n 1, 1) := by decide +kernel
theorem dX10_set_1 : decode cX10_set 1 = .ok (.invokestatic 85, 3) := by decide +kernel
theorem dX10_set_4 : decode cX10_set 4 = .ok (.ifCond .ne 6, 3) := by decide +kernel
theorem dX10_set_7 : decode cX10_set 7 = .ok (.ldc 93, 2) := by decide +kernel
theorem dX10_set_9 : decode cX10_set 9 = .ok (.ireturn, 1) := by decide +kernel
theorem dX10_set_10 : decode cX10_set 10 = .ok (.aload_n 0, 1) := by decide +kernel
theorem dX10_set_11 : decode cX10_set 11 = .ok (.getfield 12, 3) := by decide +kernel
theorem dX10_set_14 : decode cX10_set 14 = .ok (.iload_n 1, 1) := by decide +kernel
theorem dX10_set_15 : decode cX10_set 15 = .ok (.iload_n 2, 1) := by decide +kernel
theorem dX10_set_16 : decode cX10_set 16 = .ok (.iconst 1, 1) := by decide +kernel
theorem dX10_set_17 : decode cX10_set 17 = .ok (.invokevirtual 105, 3) := by decide +kernel
theorem dX10_set_20 : decode cX10_set 20 = .ok (.istore 4, 2) := by decide +kernel
theorem dX10_set_22 : decode cX10_set 22 = .ok (.iload 4, 2) := by decide +kernel
theorem dX10_set_24 : decode cX10_set 24 = .ok (.ifCond .eq 10, 3) := by decide +kernel
theorem dX10_set_27 : decode cX10_set 27 = .ok (.aload_n 0, 1) := by decide +kernel
theorem dX10_set_28 : decode cX10_set 28 = .ok (.iload 4, 2) := by decide +kernel
theorem dX10_set_30 : decode cX10_set 30 = .ok (.invokevirtual 94, 3) := by decide +kernel
theorem dX10_set_33 : decode cX10_set 33 = .ok (.ireturn, 1) := by decide +kernel
theorem dX10_set_34 : decode cX10_set 34 = .ok (.aload_n 0, 1) := by decide +kernel
theorem dX10_set_35 : decode cX10_set 35 = .ok (.aload_n 0, 1) := by decide +kernel
theorem dX10_set_36 : decode cX10_set 36 = .ok (.getfield 12, 3) := by decide +kernel
theorem dX10_set_39 : decode cX10_set 39 = .ok (.iload_n 1, 1) := by decide +kernel
theorem dX10_set_40 : decode cX10_set 40 = .ok (.iload_n 2, 1) := by decide +kernel
theorem dX10_set_41 : decode cX10_set 41 = .ok (.iload_n 3, 1) := by decide +kernel
theorem dX10_set_42 : decode cX10_set 42 = .ok (.invokevirtual 109, 3) := by decide +kernel
theorem dX10_set_45 : decode cX10_set 45 = .ok (.invokevirtual 102, 3) := by decide +kernel
theorem dX10_set_48 : decode cX10_set 48 = .ok (.ireturn, 1) := by decide +kernel
theorem dX10_copy_0 : decode cX10_copy 0 = .ok (.iload_n 1, 1) := by decide +kernel
theorem dX10_copy_1 : decode cX10_copy 1 = .ok (.invokestatic 85, 3) := by decide +kernel
theorem dX10_copy_4 : decode cX10_copy 4 = .ok (.ifCond .eq 10, 3) := by decide +kernel
theorem dX10_copy_7 : decode cX10_copy 7 = .ok (.iload_n 3, 1) := by decide +kernel
theorem dX10_copy_8 : decode cX10_copy 8 = .ok (.invokestatic 85, 3) := by decide +kernel
theorem dX10_copy_11 : decode cX10_copy 11 = .ok (.ifCond .ne 6, 3) := by decide +kernel
theorem dX10_copy_14 : decode cX10_copy 14 = .ok (.ldc 93, 2) := by decide +kernel
theorem dX10_copy_16 : decode cX10_copy 16 = .ok (.ireturn, 1) := by decide +kernel
theorem dX10_copy_17 : decode cX10_copy 17 = .ok (.aload_n 0, 1) := by decide +kernel
theorem dX10_copy_18 : decode cX10_copy 18 = .ok (.getfield 12, 3) := by decide +kernel
theorem dX10_copy_21 : decode cX10_copy 21 = .ok (.iload_n 1, 1) := by decide +kernel
theorem dX10_copy_22 : decode cX10_copy 22 = .ok (.invokevirtual 112, 3) := by decide +kernel
theorem dX10_copy_25 : decode cX10_copy 25 = .ok (.ifCond .ne 14, 3) := by decide +kernel
theorem dX10_copy_28 : decode cX10_copy 28 = .ok (.aload_n 0, 1) := by decide +kernel
theorem dX10_copy_29 : decode cX10_copy 29 = .ok (.getfield 12, 3) := by decide +kernel
theorem dX10_copy_32 : decode cX10_copy 32 = .ok (.iload_n 3, 1) := by decide +kernel
theorem dX10_copy_33 : decode cX10_copy 33 = .ok (.invokevirtual 112, 3) := by decide +kernel
theorem dX10_copy_36 : decode cX10_copy 36 = .ok (.ifCond .eq 9, 3) := by decide +kernel
theorem dX10_copy_39 : decode cX10_copy 39 = .ok (.aload_n 0, 1) := by decide +kernel
theorem dX10_copy_40 : decode cX10_copy 40 = .ok (.iconst 1, 1) := by decide +kernel
theorem dX10_copy_41 : decode cX10_copy 41 = .ok (.invokevirtual 94, 3) := by decide +kernel
theorem dX10_copy_44 : decode cX10_copy 44 = .ok (.ireturn, 1) := by decide +kernel
theorem dX10_copy_45 : decode cX10_copy 45 = .ok (.aload_n 0, 1) := by decide +kernel
theorem dX10_copy_46 : decode cX10_copy 46 = .ok (.getfield 12, 3) := by decide +kernel
theorem dX10_copy_49 : decode cX10_copy 49 = .ok (.getfield 115, 3) := by decide +kernel
theorem dX10_copy_52 : decode cX10_copy 52 = .ok (.iload_n 1, 1) := by decide +kernel
theorem dX10_copy_53 : decode cX10_copy 53 = .ok (.iaload, 1) := by decide +kernel
theorem dX10_copy_54 : decode cX10_copy 54 = .ok (.aload_n 0, 1) := by decide +kernel
theorem dX10_copy_55 : decode cX10_copy 55 = .ok (.getfield 12, 3) := by decide +kernel
theorem dX10_copy_58 : decode cX10_copy 58 = .ok (.getfield 115, 3) := by decide +kernel
theorem dX10_copy_61 : decode cX10_copy 61 = .ok (.iload_n 3, 1) := by decide +kernel
theorem dX10_copy_62 : decode cX10_copy 62 = .ok (.iaload, 1) := by decide +kernel
theorem dX10_copy_63 : decode cX10_copy 63 = .ok (.if_icmp .eq 9, 3) := by decide +kernel
theorem dX10_copy_66 : decode cX10_copy 66 = .ok (.aload_n 0, 1) := by decide +kernel
theorem dX10_copy_67 : decode cX10_copy 67 = .ok (.iconst 5, 1) := by decide +kernel
theorem dX10_copy_68 : decode cX10_copy 68 = .ok (.invokevirtual 94, 3) := by decide +kernel
theorem dX10_copy_71 : decode cX10_copy 71 = .ok (.ireturn, 1) := by decide +kernel
theorem dX10_copy_72 : decode cX10_copy 72 = .ok (.aload_n 0, 1) := by decide +kernel
theorem dX10_copy_73 : decode cX10_copy 73 = .ok (.getfield 12, 3) := by decide +kernel
theorem dX10_copy_76 : decode cX10_copy 76 = .ok (.iload_n 1, 1) := by decide +kernel
theorem dX10_copy_77 : decode cX10_copy 77 = .ok (.iload_n 2, 1) := by decide +kernel
theorem dX10_copy_78 : decode cX10_copy 78 = .ok (.iload 5, 2) := by decide +kernel
theorem dX10_copy_80 : decode cX10_copy 80 = .ok (.invokevirtual 118, 3) := by decide +kernel
theorem dX10_copy_83 : decode cX10_copy 83 = .ok (.ifCond .eq 18, 3) := by decide +kernel
theorem dX10_copy_86 : decode cX10_copy 86 = .ok (.aload_n 0, 1) := by decide +kernel
theorem dX10_copy_87 : decode cX10_copy 87 = .ok (.getfield 12, 3) := by decide +kernel
theorem dX10_copy_90 : decode cX10_copy 90 = .ok (.iload_n 3, 1) := by decide +kernel
theorem dX10_copy_91 : decode cX10_copy 91 = .ok (.iload 4, 2) := by decide +kernel
theorem dX10_copy_93 : decode cX10_copy 93 = .ok (.iload 5, 2) := by decide +kernel
theorem dX10_copy_95 : decode cX10_copy 95 = .ok (.invokevirtual 118, 3) := by decide +kernel
theorem dX10_copy_98 : decode cX10_copy 98 = .ok (.ifCond .ne 9, 3) := by decide +kernel
theorem dX10_copy_101 : decode cX10_copy 101 = .ok (.aload_n 0, 1) := by decide +kernel
theorem dX10_copy_102 : decode cX10_copy 102 = .ok (.iconst 2, 1) := by decide +kernel
theorem dX10_copy_103 : decode cX10_copy 103 = .ok (.invokevirtual 94, 3) := by decide +kernel
theorem dX10_copy_106 : decode cX10_copy 106 = .ok (.ireturn, 1) := by decide +kernel
theorem dX10_copy_107 : decode cX10_copy 107 = .ok (.aload_n 0, 1) := by decide +kernel
theorem dX10_copy_108 : decode cX10_copy 108 = .ok (.getfield 12, 3) := by decide +kernel
theorem dX10_copy_111 : decode cX10_copy 111 = .ok (.getfield 121, 3) := by decide +kernel
theorem dX10_copy_114 : decode cX10_copy 114 = .ok (.iload_n 1, 1) := by decide +kernel
theorem dX10_copy_115 : decode cX10_copy 115 = .ok (.aaload, 1) := by decide +kernel
theorem dX10_copy_116 : decode cX10_copy 116 = .ok (.iload_n 2, 1) := by decide +kernel
theorem dX10_copy_117 : decode cX10_copy 117 = .ok (.aload_n 0, 1) := by decide +kernel
theorem dX10_copy_118 : decode cX10_copy 118 = .ok (.getfield 12, 3) := by decide +kernel
theorem dX10_copy_121 : decode cX10_copy 121 = .ok (.getfield 121, 3) := by decide +kernel
theorem dX10_copy_124 : decode cX10_copy 124 = .ok (.iload_n 3, 1) := by decide +kernel
theorem dX10_copy_125 : decode cX10_copy 125 = .ok (.aaload, 1) := by decide +kernel
theorem dX10_copy_126 : decode cX10_copy 126 = .ok (.iload 4, 2) := by decide +kernel
theorem dX10_copy_128 : decode cX10_copy 128 = .ok (.iload 5, 2) := by decide +kernel
theorem dX10_copy_130 : decode cX10_copy 130 = .ok (.invokestatic 125, 3) := by decide +kernel
theorem dX10_copy_133 : decode cX10_copy 133 = .ok (.aload_n 0, 1) := by decide +kernel
theorem dX10_copy_134 : decode cX10_copy 134 = .ok (.iload 5, 2) := by decide +kernel
theorem dX10_copy_136 : decode cX10_copy 136 = .ok (.invokevirtual 102, 3) := by decide +kernel
theorem dX10_copy_139 : decode cX10_copy 139 = .ok (.ireturn, 1) := by decide +kernel
theorem dX10_drop_0 : decode cX10_drop 0 = .ok (.iload_n 1, 1) := by decide +kernel
theorem dX10_drop_1 : decode cX10_drop 1 = .ok (.invokestatic 85, 3) := by decide +kernel
theorem dX10_drop_4 : decode cX10_drop 4 = .ok (.ifCond .ne 6, 3) := by decide +kernel
theorem dX10_drop_7 : decode cX10_drop 7 = .ok (.ldc 93, 2) := by decide +kernel
theorem dX10_drop_9 : decode cX10_drop 9 = .ok (.ireturn, 1) := by decide +kernel
theorem dX10_drop_10 : decode cX10_drop 10 = .ok (.aload_n 0, 1) := by decide +kernel
theorem dX10_drop_11 : decode cX10_drop 11 = .ok (.getfield 12, 3) := by decide +kernel
theorem dX10_drop_14 : decode cX10_drop 14 = .ok (.iload_n 1, 1) := by decide +kernel
theorem dX10_drop_15 : decode cX10_drop 15 = .ok (.invokevirtual 112, 3) := by decide +kernel
theorem dX10_drop_18 : decode cX10_drop 18 = .ok (.ifCond .eq 9, 3) := by decide +kernel
theorem dX10_drop_21 : decode cX10_drop 21 = .ok (.aload_n 0, 1) := by decide +kernel
theorem dX10_drop_22 : decode cX10_drop 22 = .ok (.iconst 1, 1) := by decide +kernel
theorem dX10_drop_23 : decode cX10_drop 23 = .ok (.invokevirtual 94, 3) := by decide +kernel
theorem dX10_drop_26 : decode cX10_drop 26 = .ok (.ireturn, 1) := by decide +kernel
theorem dX10_drop_27 : decode cX10_drop 27 = .ok (.aload_n 0, 1) := by decide +kernel
theorem dX10_drop_28 : decode cX10_drop 28 = .ok (.aload_n 0, 1) := by decide +kernel
theorem dX10_drop_29 : decode cX10_drop 29 = .ok (.getfield 12, 3) := by decide +kernel
theorem dX10_drop_32 : decode cX10_drop 32 = .ok (.iload_n 1, 1) := by decide +kernel
theorem dX10_drop_33 : decode cX10_drop 33 = .ok (.invokevirtual 131, 3) := by decide +kernel
theorem dX10_drop_36 : decode cX10_drop 36 = .ok (.invokevirtual 102, 3) := by decide +kernel
theorem dX10_drop_39 : decode cX10_drop 39 = .ok (.ireturn, 1) := by decide +kernel
theorem dX10_key_0 : decode cX10_key 0 = .ok (.iload_n 1, 1) := by decide +kernel
theorem dX10_key_1 : decode cX10_key 1 = .ok (.invokestatic 134, 3) := by decide +kernel
theorem dX10_key_4 : decode cX10_key 4 = .ok (.ifCond .eq 20, 3) := by decide +kernel
theorem dX10_key_7 : decode cX10_key 7 = .ok (.iload_n 2, 1) := by decide +kernel
theorem dX10_key_8 : decode cX10_key 8 = .ok (.invokestatic 137, 3) := by decide +kernel
theorem dX10_key_11 : decode cX10_key 11 = .ok (.ifCond .eq 13, 3) := by decide +kernel
theorem dX10_key_14 : decode cX10_key 14 = .ok (.iload_n 3, 1) := by decide +kernel
theorem dX10_key_15 : decode cX10_key 15 = .ok (.iconst 1, 1) := by decide +kernel
theorem dX10_key_16 : decode cX10_key 16 = .ok (.ldc 140, 2) := by decide +kernel
theorem dX10_key_18 : decode cX10_key 18 = .ok (.invokestatic 89, 3) := by decide +kernel
theorem dX10_key_21 : decode cX10_key 21 = .ok (.ifCond .ne 6, 3) := by decide +kernel
theorem dX10_key_24 : decode cX10_key 24 = .ok (.ldc 93, 2) := by decide +kernel
theorem dX10_key_26 : decode cX10_key 26 = .ok (.ireturn, 1) := by decide +kernel
theorem dX10_key_27 : decode cX10_key 27 = .ok (.aload_n 0, 1) := by decide +kernel
theorem dX10_key_28 : decode cX10_key 28 = .ok (.getfield 19, 3) := by decide +kernel
theorem dX10_key_31 : decode cX10_key 31 = .ok (.iload_n 1, 1) := by decide +kernel
theorem dX10_key_32 : decode cX10_key 32 = .ok (.iload_n 2, 1) := by decide +kernel
theorem dX10_key_33 : decode cX10_key 33 = .ok (.iload_n 3, 1) := by decide +kernel
theorem dX10_key_34 : decode cX10_key 34 = .ok (.invokevirtual 141, 3) := by decide +kernel
theorem dX10_key_37 : decode cX10_key 37 = .ok (.ifCond .eq 15, 3) := by decide +kernel
theorem dX10_key_40 : decode cX10_key 40 = .ok (.aload_n 0, 1) := by decide +kernel
theorem dX10_key_41 : decode cX10_key 41 = .ok (.getfield 19, 3) := by decide +kernel
theorem dX10_key_44 : decode cX10_key 44 = .ok (.getfield 144, 3) := by decide +kernel
theorem dX10_key_47 : decode cX10_key 47 = .ok (.iload_n 1, 1) := by decide +kernel
theorem dX10_key_48 : decode cX10_key 48 = .ok (.iaload, 1) := by decide +kernel
theorem dX10_key_49 : decode cX10_key 49 = .ok (.goto 5, 3) := by decide +kernel
theorem dX10_key_52 : decode cX10_key 52 = .ok (.ldc 147, 2) := by decide +kernel
theorem dX10_key_54 : decode cX10_key 54 = .ok (.ireturn, 1) := by decide +kernel
theorem dX10_keyOn_0 : decode cX10_keyOn 0 = .ok (.iload_n 1, 1) := by decide +kernel
theorem dX10_keyOn_1 : decode cX10_keyOn 1 = .ok (.invokestatic 134, 3) := by decide +kernel
theorem dX10_keyOn_4 : decode cX10_keyOn 4 = .ok (.ifCond .eq 22, 3) := by decide +kernel
theorem dX10_keyOn_7 : decode cX10_keyOn 7 = .ok (.iload_n 2, 1) := by decide +kernel
theorem dX10_keyOn_8 : decode cX10_keyOn 8 = .ok (.invokestatic 137, 3) := by decide +kernel
theorem dX10_keyOn_11 : decode cX10_keyOn 11 = .ok (.ifCond .eq 15, 3) := by decide +kernel
theorem dX10_keyOn_14 : decode cX10_keyOn 14 = .ok (.aload_n 0, 1) := by decide +kernel
theorem dX10_keyOn_15 : decode cX10_keyOn 15 = .ok (.getfield 19, 3) := by decide +kernel
theorem dX10_keyOn_18 : decode cX10_keyOn 18 = .ok (.iload_n 1, 1) := by decide +kernel
theorem dX10_keyOn_19 : decode cX10_keyOn 19 = .ok (.iload_n 2, 1) := by decide +kernel
theorem dX10_keyOn_20 : decode cX10_keyOn 20 = .ok (.invokevirtual 148, 3) := by decide +kernel
theorem dX10_keyOn_23 : decode cX10_keyOn 23 = .ok (.goto 5, 3) := by decide +kernel
theorem dX10_keyOn_26 : decode cX10_keyOn 26 = .ok (.ldc 93, 2) := by decide +kernel
theorem dX10_keyOn_28 : decode cX10_keyOn 28 = .ok (.ireturn, 1) := by decide +kernel
theorem dX10_close_0 : decode cX10_close 0 = .ok (.iload_n 1, 1) := by decide +kernel
theorem dX10_close_1 : decode cX10_close 1 = .ok (.invokestatic 134, 3) := by decide +kernel
theorem dX10_close_4 : decode cX10_close 4 = .ok (.ifCond .eq 19, 3) := by decide +kernel
theorem dX10_close_7 : decode cX10_close 7 = .ok (.iload_n 2, 1) := by decide +kernel
theorem dX10_close_8 : decode cX10_close 8 = .ok (.iconst 0, 1) := by decide +kernel
theorem dX10_close_9 : decode cX10_close 9 = .ok (.iconst 1, 1) := by decide +kernel
theorem dX10_close_10 : decode cX10_close 10 = .ok (.invokestatic 89, 3) := by decide +kernel
theorem dX10_close_13 : decode cX10_close 13 = .ok (.ifCond .eq 10, 3) := by decide +kernel
theorem dX10_close_16 : decode cX10_close 16 = .ok (.iload_n 3, 1) := by decide +kernel
theorem dX10_close_17 : decode cX10_close 17 = .ok (.invokestatic 137, 3) := by decide +kernel
theorem dX10_close_20 : decode cX10_close 20 = .ok (.ifCond .ne 6, 3) := by decide +kernel
theorem dX10_close_23 : decode cX10_close 23 = .ok (.ldc 93, 2) := by decide +kernel
theorem dX10_close_25 : decode cX10_close 25 = .ok (.ireturn, 1) := by decide +kernel
theorem dX10_close_26 : decode cX10_close 26 = .ok (.iload_n 2, 1) := by decide +kernel
theorem dX10_close_27 : decode cX10_close 27 = .ok (.ifCond .ne 13, 3) := by decide +kernel
theorem dX10_close_30 : decode cX10_close 30 = .ok (.aload_n 0, 1) := by decide +kernel
theorem dX10_close_31 : decode cX10_close 31 = .ok (.getfield 19, 3) := by decide +kernel
theorem dX10_close_34 : decode cX10_close 34 = .ok (.getfield 152, 3) := by decide +kernel
theorem dX10_close_37 : decode cX10_close 37 = .ok (.goto 10, 3) := by decide +kernel
theorem dX10_close_40 : decode cX10_close 40 = .ok (.aload_n 0, 1) := by decide +kernel
theorem dX10_close_41 : decode cX10_close 41 = .ok (.getfield 19, 3) := by decide +kernel
theorem dX10_close_44 : decode cX10_close 44 = .ok (.getfield 155, 3) := by decide +kernel
theorem dX10_close_47 : decode cX10_close 47 = .ok (.astore 4, 2) := by decide +kernel
theorem dX10_close_49 : decode cX10_close 49 = .ok (.aload 4, 2) := by decide +kernel
theorem dX10_close_51 : decode cX10_close 51 = .ok (.iload_n 1, 1) := by decide +kernel
theorem dX10_close_52 : decode cX10_close 52 = .ok (.iaload, 1) := by decide +kernel
theorem dX10_close_53 : decode cX10_close 53 = .ok (.sipush 1000, 3) := by decide +kernel
theorem dX10_close_56 : decode cX10_close 56 = .ok (.if_icmp .eq 6, 3) := by decide +kernel
theorem dX10_close_59 : decode cX10_close 59 = .ok (.ldc 158, 2) := by decide +kernel
theorem dX10_close_61 : decode cX10_close 61 = .ok (.ireturn, 1) := by decide +kernel
theorem dX10_close_62 : decode cX10_close 62 = .ok (.aload 4, 2) := by decide +kernel
theorem dX10_close_64 : decode cX10_close 64 = .ok (.iload_n 1, 1) := by decide +kernel
theorem dX10_close_65 : decode cX10_close 65 = .ok (.iload_n 3, 1) := by decide +kernel
theorem dX10_close_66 : decode cX10_close 66 = .ok (.iastore, 1) := by decide +kernel
theorem dX10_close_67 : decode cX10_close 67 = .ok (.iconst 1, 1) := by decide +kernel
theorem dX10_close_68 : decode cX10_close 68 = .ok (.ireturn, 1) := by decide +kernel
theorem dX10_paper_0 : decode cX10_paper 0 = .ok (.iload_n 1, 1) := by decide +kernel
theorem dX10_paper_1 : decode cX10_paper 1 = .ok (.invokestatic 85, 3) := by decide +kernel
theorem dX10_paper_4 : decode cX10_paper 4 = .ok (.ifCond .ne 6, 3) := by decide +kernel
theorem dX10_paper_7 : decode cX10_paper 7 = .ok (.ldc 93, 2) := by decide +kernel
theorem dX10_paper_9 : decode cX10_paper 9 = .ok (.ireturn, 1) := by decide +kernel
theorem dX10_paper_10 : decode cX10_paper 10 = .ok (.aload_n 0, 1) := by decide +kernel
theorem dX10_paper_11 : decode cX10_paper 11 = .ok (.getfield 159, 3) := by decide +kernel
theorem dX10_paper_14 : decode cX10_paper 14 = .ok (.bipush 12, 2) := by decide +kernel
theorem dX10_paper_16 : decode cX10_paper 16 = .ok (.if_icmp .lt 6, 3) := by decide +kernel
theorem dX10_paper_19 : decode cX10_paper 19 = .ok (.ldc 147, 2) := by decide +kernel
theorem dX10_paper_21 : decode cX10_paper 21 = .ok (.ireturn, 1) := by decide +kernel
theorem dX10_paper_22 : decode cX10_paper 22 = .ok (.aload_n 0, 1) := by decide +kernel
theorem dX10_paper_23 : decode cX10_paper 23 = .ok (.getfield 12, 3) := by decide +kernel
theorem dX10_paper_26 : decode cX10_paper 26 = .ok (.iload_n 1, 1) := by decide +kernel
theorem dX10_paper_27 : decode cX10_paper 27 = .ok (.iload_n 2, 1) := by decide +kernel
theorem dX10_paper_28 : decode cX10_paper 28 = .ok (.bipush 9, 2) := by decide +kernel
theorem dX10_paper_30 : decode cX10_paper 30 = .ok (.invokevirtual 105, 3) := by decide +kernel
theorem dX10_paper_33 : decode cX10_paper 33 = .ok (.istore_n 3, 1) := by decide +kernel
theorem dX10_paper_34 : decode cX10_paper 34 = .ok (.iload_n 3, 1) := by decide +kernel
theorem dX10_paper_35 : decode cX10_paper 35 = .ok (.ifCond .eq 9, 3) := by decide +kernel
theorem dX10_paper_38 : decode cX10_paper 38 = .ok (.aload_n 0, 1) := by decide +kernel
theorem dX10_paper_39 : decode cX10_paper 39 = .ok (.iload_n 3, 1) := by decide +kernel
theorem dX10_paper_40 : decode cX10_paper 40 = .ok (.invokevirtual 94, 3) := by decide +kernel
theorem dX10_paper_43 : decode cX10_paper 43 = .ok (.ireturn, 1) := by decide +kernel
theorem dX10_paper_44 : decode cX10_paper 44 = .ok (.aload_n 0, 1) := by decide +kernel
theorem dX10_paper_45 : decode cX10_paper 45 = .ok (.getfield 12, 3) := by decide +kernel
theorem dX10_paper_48 : decode cX10_paper 48 = .ok (.getfield 121, 3) := by decide +kernel
theorem dX10_paper_51 : decode cX10_paper 51 = .ok (.iload_n 1, 1) := by decide +kernel
theorem dX10_paper_52 : decode cX10_paper 52 = .ok (.aaload, 1) := by decide +kernel
theorem dX10_paper_53 : decode cX10_paper 53 = .ok (.astore 4, 2) := by decide +kernel
theorem dX10_paper_55 : decode cX10_paper 55 = .ok (.aload 4, 2) := by decide +kernel
theorem dX10_paper_57 : decode cX10_paper 57 = .ok (.iload_n 2, 1) := by decide +kernel
theorem dX10_paper_58 : decode cX10_paper 58 = .ok (.invokestatic 163, 3) := by decide +kernel
theorem dX10_paper_61 : decode cX10_paper 61 = .ok (.ifCond .ne 6, 3) := by decide +kernel
theorem dX10_paper_64 : decode cX10_paper 64 = .ok (.ldc 93, 2) := by decide +kernel
theorem dX10_paper_66 : decode cX10_paper 66 = .ok (.ireturn, 1) := by decide +kernel
theorem dX10_paper_67 : decode cX10_paper 67 = .ok (.aload_n 0, 1) := by decide +kernel
theorem dX10_paper_68 : decode cX10_paper 68 = .ok (.getfield 25, 3) := by decide +kernel
theorem dX10_paper_71 : decode cX10_paper 71 = .ok (.aload_n 0, 1) := by decide +kernel
theorem dX10_paper_72 : decode cX10_paper 72 = .ok (.getfield 159, 3) := by decide +kernel
theorem dX10_paper_75 : decode cX10_paper 75 = .ok (.new 23, 3) := by decide +kernel
theorem dX10_paper_78 : decode cX10_paper 78 = .ok (.dup, 1) := by decide +kernel
theorem dX10_paper_79 : decode cX10_paper 79 = .ok (.aload_n 0, 1) := by decide +kernel
theorem dX10_paper_80 : decode cX10_paper 80 = .ok (.getfield 159, 3) := by decide +kernel
theorem dX10_paper_83 : decode cX10_paper 83 = .ok (.aload 4, 2) := by decide +kernel
theorem dX10_paper_85 : decode cX10_paper 85 = .ok (.iload_n 2, 1) := by decide +kernel
theorem dX10_paper_86 : decode cX10_paper 86 = .ok (.invokespecial 167, 3) := by decide +kernel
theorem dX10_paper_89 : decode cX10_paper 89 = .ok (.aastore, 1) := by decide +kernel
theorem dX10_paper_90 : decode cX10_paper 90 = .ok (.aload_n 0, 1) := by decide +kernel
theorem dX10_paper_91 : decode cX10_paper 91 = .ok (.dup, 1) := by decide +kernel
theorem dX10_paper_92 : decode cX10_paper 92 = .ok (.getfield 159, 3) := by decide +kernel
theorem dX10_paper_95 : decode cX10_paper 95 = .ok (.iconst 1, 1) := by decide +kernel
theorem dX10_paper_96 : decode cX10_paper 96 = .ok (.iadd, 1) := by decide +kernel
theorem dX10_paper_97 : decode cX10_paper 97 = .ok (.putfield 159, 3) := by decide +kernel
theorem dX10_paper_100 : decode cX10_paper 100 = .ok (.aload_n 0, 1) := by decide +kernel
theorem dX10_paper_101 : decode cX10_paper 101 = .ok (.aload_n 0, 1) := by decide +kernel
theorem dX10_paper_102 : decode cX10_paper 102 = .ok (.getfield 159, 3) := by decide +kernel
theorem dX10_paper_105 : decode cX10_paper 105 = .ok (.iconst 1, 1) := by decide +kernel
theorem dX10_paper_106 : decode cX10_paper 106 = .ok (.isub, 1) := by decide +kernel
theorem dX10_paper_107 : decode cX10_paper 107 = .ok (.invokevirtual 102, 3) := by decide +kernel
theorem dX10_paper_110 : decode cX10_paper 110 = .ok (.ireturn, 1) := by decide +kernel
theorem dX10_told_0 : decode cX10_told 0 = .ok (.aload_n 0, 1) := by decide +kernel
theorem dX10_told_1 : decode cX10_told 1 = .ok (.iload_n 1, 1) := by decide +kernel
theorem dX10_told_2 : decode cX10_told 2 = .ok (.invokevirtual 170, 3) := by decide +kernel
theorem dX10_told_5 : decode cX10_told 5 = .ok (.astore_n 3, 1) := by decide +kernel
theorem dX10_told_6 : decode cX10_told 6 = .ok (.aload_n 3, 1) := by decide +kernel
theorem dX10_told_7 : decode cX10_told 7 = .ok (.ifnull 13, 3) := by decide +kernel
theorem dX10_told_10 : decode cX10_told 10 = .ok (.iload_n 2, 1) := by decide +kernel
theorem dX10_told_11 : decode cX10_told 11 = .ok (.iconst 0, 1) := by decide +kernel
theorem dX10_told_12 : decode cX10_told 12 = .ok (.bipush 15, 2) := by decide +kernel
theorem dX10_told_14 : decode cX10_told 14 = .ok (.invokestatic 89, 3) := by decide +kernel
theorem dX10_told_17 : decode cX10_told 17 = .ok (.ifCond .ne 6, 3) := by decide +kernel
theorem dX10_told_20 : decode cX10_told 20 = .ok (.ldc 93, 2) := by decide +kernel
theorem dX10_told_22 : decode cX10_told 22 = .ok (.ireturn, 1) := by decide +kernel
theorem dX10_told_23 : decode cX10_told 23 = .ok (.iload_n 2, 1) := by decide +kernel
theorem dX10_told_24 : decode cX10_told 24 = .ok (.iconst 4, 1) := by decide +kernel
theorem dX10_told_25 : decode cX10_told 25 = .ok (.if_icmp .ge 10, 3) := by decide +kernel
theorem dX10_told_28 : decode cX10_told 28 = .ok (.aload_n 3, 1) := by decide +kernel
theorem dX10_told_29 : decode cX10_told 29 = .ok (.getfield 174, 3) := by decide +kernel
theorem dX10_told_32 : decode cX10_told 32 = .ok (.iload_n 2, 1) := by decide +kernel
theorem dX10_told_33 : decode cX10_told 33 = .ok (.iaload, 1) := by decide +kernel
theorem dX10_told_34 : decode cX10_told 34 = .ok (.ireturn, 1) := by decide +kernel
theorem dX10_told_35 : decode cX10_told 35 = .ok (.iload_n 2, 1) := by decide +kernel
theorem dX10_told_36 : decode cX10_told 36 = .ok (.bipush 12, 2) := by decide +kernel
theorem dX10_told_38 : decode cX10_told 38 = .ok (.if_icmp .lt 12, 3) := by decide +kernel
theorem dX10_told_41 : decode cX10_told 41 = .ok (.aload_n 3, 1) := by decide +kernel
theorem dX10_told_42 : decode cX10_told 42 = .ok (.iload_n 2, 1) := by decide +kernel
theorem dX10_told_43 : decode cX10_told 43 = .ok (.bipush 12, 2) := by decide +kernel
theorem dX10_told_45 : decode cX10_told 45 = .ok (.isub, 1) := by decide +kernel
theorem dX10_told_46 : decode cX10_told 46 = .ok (.invokevirtual 177, 3) := by decide +kernel
theorem dX10_told_49 : decode cX10_told 49 = .ok (.ireturn, 1) := by decide +kernel
theorem dX10_told_50 : decode cX10_told 50 = .ok (.iload_n 2, 1) := by decide +kernel
theorem dX10_told_51 : decode cX10_told 51 = .ok (.tableswitch 86 4 10 #[41, 47, 53, 58, 71, 76, 81], 41) := by decide +kernel
theorem dX10_told_92 : decode cX10_told 92 = .ok (.aload_n 3, 1) := by decide +kernel
theorem dX10_told_93 : decode cX10_told 93 = .ok (.iconst 0, 1) := by decide +kernel
theorem dX10_told_94 : decode cX10_told 94 = .ok (.invokevirtual 180, 3) := by decide +kernel
theorem dX10_told_97 : decode cX10_told 97 = .ok (.ireturn, 1) := by decide +kernel
theorem dX10_told_98 : decode cX10_told 98 = .ok (.aload_n 3, 1) := by decide +kernel
theorem dX10_told_99 : decode cX10_told 99 = .ok (.iconst 1, 1) := by decide +kernel
theorem dX10_told_100 : decode cX10_told 100 = .ok (.invokevirtual 180, 3) := by decide +kernel
theorem dX10_told_103 : decode cX10_told 103 = .ok (.ireturn, 1) := by decide +kernel
theorem dX10_told_104 : decode cX10_told 104 = .ok (.aload_n 3, 1) := by decide +kernel
theorem dX10_told_105 : decode cX10_told 105 = .ok (.invokevirtual 183, 3) := by decide +kernel
theorem dX10_told_108 : decode cX10_told 108 = .ok (.ireturn, 1) := by decide +kernel
theorem dX10_told_109 : decode cX10_told 109 = .ok (.aload_n 3, 1) := by decide +kernel
theorem dX10_told_110 : decode cX10_told 110 = .ok (.invokevirtual 183, 3) := by decide +kernel
theorem dX10_told_113 : decode cX10_told 113 = .ok (.aload_n 0, 1) := by decide +kernel
theorem dX10_told_114 : decode cX10_told 114 = .ok (.aload_n 3, 1) := by decide +kernel
theorem dX10_told_115 : decode cX10_told 115 = .ok (.invokevirtual 187, 3) := by decide +kernel
theorem dX10_told_118 : decode cX10_told 118 = .ok (.invokestatic 191, 3) := by decide +kernel
theorem dX10_told_121 : decode cX10_told 121 = .ok (.ireturn, 1) := by decide +kernel
theorem dX10_told_122 : decode cX10_told 122 = .ok (.aload_n 3, 1) := by decide +kernel
theorem dX10_told_123 : decode cX10_told 123 = .ok (.getfield 194, 3) := by decide +kernel
theorem dX10_told_126 : decode cX10_told 126 = .ok (.ireturn, 1) := by decide +kernel
theorem dX10_told_127 : decode cX10_told 127 = .ok (.aload_n 3, 1) := by decide +kernel
theorem dX10_told_128 : decode cX10_told 128 = .ok (.getfield 197, 3) := by decide +kernel
theorem dX10_told_131 : decode cX10_told 131 = .ok (.ireturn, 1) := by decide +kernel
theorem dX10_told_132 : decode cX10_told 132 = .ok (.aload_n 3, 1) := by decide +kernel
theorem dX10_told_133 : decode cX10_told 133 = .ok (.getfield 200, 3) := by decide +kernel
theorem dX10_told_136 : decode cX10_told 136 = .ok (.ireturn, 1) := by decide +kernel
theorem dX10_told_137 : decode cX10_told 137 = .ok (.aload_n 3, 1) := by decide +kernel
theorem dX10_told_138 : decode cX10_told 138 = .ok (.getfield 203, 3) := by decide +kernel
theorem dX10_told_141 : decode cX10_told 141 = .ok (.ireturn, 1) := by decide +kernel
theorem dX10_show_0 : decode cX10_show 0 = .ok (.aload_n 0, 1) := by decide +kernel
theorem dX10_show_1 : decode cX10_show 1 = .ok (.iload_n 1, 1) := by decide +kernel
theorem dX10_show_2 : decode cX10_show 2 = .ok (.invokevirtual 170, 3) := by decide +kernel
theorem dX10_show_5 : decode cX10_show 5 = .ok (.astore 4, 2) := by decide +kernel
theorem dX10_show_7 : decode cX10_show 7 = .ok (.aload 4, 2) := by decide +kernel
theorem dX10_show_9 : decode cX10_show 9 = .ok (.ifnull 15, 3) := by decide +kernel
theorem dX10_show_12 : decode cX10_show 12 = .ok (.iload_n 2, 1) := by decide +kernel
theorem dX10_show_13 : decode cX10_show 13 = .ok (.invokestatic 206, 3) := by decide +kernel
theorem dX10_show_16 : decode cX10_show 16 = .ok (.ifCond .eq 8, 3) := by decide +kernel
theorem dX10_show_19 : decode cX10_show 19 = .ok (.iload_n 3, 1) := by decide +kernel
theorem dX10_show_20 : decode cX10_show 20 = .ok (.iconst (-1), 1) := by decide +kernel
theorem dX10_show_21 : decode cX10_show 21 = .ok (.if_icmp .ge 6, 3) := by decide +kernel
theorem dX10_show_24 : decode cX10_show 24 = .ok (.ldc 93, 2) := by decide +kernel
theorem dX10_show_26 : decode cX10_show 26 = .ok (.ireturn, 1) := by decide +kernel
theorem dX10_show_27 : decode cX10_show 27 = .ok (.aload 4, 2) := by decide +kernel
theorem dX10_show_29 : decode cX10_show 29 = .ok (.iload_n 2, 1) := by decide +kernel
theorem dX10_show_30 : decode cX10_show 30 = .ok (.aload_n 0, 1) := by decide +kernel
theorem dX10_show_31 : decode cX10_show 31 = .ok (.getfield 82, 3) := by decide +kernel
theorem dX10_show_34 : decode cX10_show 34 = .ok (.invokevirtual 209, 3) := by decide +kernel
theorem dX10_show_37 : decode cX10_show 37 = .ok (.istore 5, 2) := by decide +kernel
theorem dX10_show_39 : decode cX10_show 39 = .ok (.iload_n 3, 1) := by decide +kernel
theorem dX10_show_40 : decode cX10_show 40 = .ok (.iconst (-1), 1) := by decide +kernel
theorem dX10_show_41 : decode cX10_show 41 = .ok (.if_icmp .ne 6, 3) := by decide +kernel
theorem dX10_show_44 : decode cX10_show 44 = .ok (.iload 5, 2) := by decide +kernel
theorem dX10_show_46 : decode cX10_show 46 = .ok (.ireturn, 1) := by decide +kernel
theorem dX10_show_47 : decode cX10_show 47 = .ok (.iload_n 3, 1) := by decide +kernel
theorem dX10_show_48 : decode cX10_show 48 = .ok (.iload 5, 2) := by decide +kernel
theorem dX10_show_50 : decode cX10_show 50 = .ok (.if_icmp .ge 21, 3) := by decide +kernel
theorem dX10_show_53 : decode cX10_show 53 = .ok (.iload_n 3, 1) := by decide +kernel
theorem dX10_show_54 : decode cX10_show 54 = .ok (.aload_n 0, 1) := by decide +kernel
theorem dX10_show_55 : decode cX10_show 55 = .ok (.getfield 82, 3) := by decide +kernel
theorem dX10_show_58 : decode cX10_show 58 = .ok (.arraylength, 1) := by decide +kernel
theorem dX10_show_59 : decode cX10_show 59 = .ok (.if_icmp .ge 12, 3) := by decide +kernel
theorem dX10_show_62 : decode cX10_show 62 = .ok (.aload_n 0, 1) := by decide +kernel
theorem dX10_show_63 : decode cX10_show 63 = .ok (.getfield 82, 3) := by decide +kernel
theorem dX10_show_66 : decode cX10_show 66 = .ok (.iload_n 3, 1) := by decide +kernel
theorem dX10_show_67 : decode cX10_show 67 = .ok (.iaload, 1) := by decide +kernel
theorem dX10_show_68 : decode cX10_show 68 = .ok (.goto 5, 3) := by decide +kernel
theorem dX10_show_71 : decode cX10_show 71 = .ok (.ldc 213, 2) := by decide +kernel
theorem dX10_show_73 : decode cX10_show 73 = .ok (.ireturn, 1) := by decide +kernel
theorem dX10_check_0 : decode cX10_check 0 = .ok (.aload_n 0, 1) := by decide +kernel
theorem dX10_check_1 : decode cX10_check 1 = .ok (.iload_n 1, 1) := by decide +kernel
theorem dX10_check_2 : decode cX10_check 2 = .ok (.invokevirtual 170, 3) := by decide +kernel
theorem dX10_check_5 : decode cX10_check 5 = .ok (.astore 6, 2) := by decide +kernel
theorem dX10_check_7 : decode cX10_check 7 = .ok (.aload 6, 2) := by decide +kernel
theorem dX10_check_9 : decode cX10_check 9 = .ok (.ifnull 26, 3) := by decide +kernel
theorem dX10_check_12 : decode cX10_check 12 = .ok (.iload_n 2, 1) := by decide +kernel
theorem dX10_check_13 : decode cX10_check 13 = .ok (.invokestatic 206, 3) := by decide +kernel
theorem dX10_check_16 : decode cX10_check 16 = .ok (.ifCond .eq 19, 3) := by decide +kernel
theorem dX10_check_19 : decode cX10_check 19 = .ok (.iload_n 3, 1) := by decide +kernel
theorem dX10_check_20 : decode cX10_check 20 = .ok (.invokestatic 85, 3) := by decide +kernel
theorem dX10_check_23 : decode cX10_check 23 = .ok (.ifCond .eq 12, 3) := by decide +kernel
theorem dX10_check_26 : decode cX10_check 26 = .ok (.iload 5, 2) := by decide +kernel
theorem dX10_check_28 : decode cX10_check 28 = .ok (.iload_n 2, 1) := by decide +kernel
theorem dX10_check_29 : decode cX10_check 29 = .ok (.invokestatic 214, 3) := by decide +kernel
theorem dX10_check_32 : decode cX10_check 32 = .ok (.if_icmp .eq 6, 3) := by decide +kernel
theorem dX10_check_35 : decode cX10_check 35 = .ok (.ldc 93, 2) := by decide +kernel
theorem dX10_check_37 : decode cX10_check 37 = .ok (.ireturn, 1) := by decide +kernel
theorem dX10_check_38 : decode cX10_check 38 = .ok (.aload_n 0, 1) := by decide +kernel
theorem dX10_check_39 : decode cX10_check 39 = .ok (.getfield 12, 3) := by decide +kernel
theorem dX10_check_42 : decode cX10_check 42 = .ok (.iload_n 3, 1) := by decide +kernel
theorem dX10_check_43 : decode cX10_check 43 = .ok (.iload 4, 2) := by decide +kernel
theorem dX10_check_45 : decode cX10_check 45 = .ok (.iload 5, 2) := by decide +kernel
theorem dX10_check_47 : decode cX10_check 47 = .ok (.invokevirtual 105, 3) := by decide +kernel
theorem dX10_check_50 : decode cX10_check 50 = .ok (.istore 7, 2) := by decide +kernel
theorem dX10_check_52 : decode cX10_check 52 = .ok (.iload 7, 2) := by decide +kernel
theorem dX10_check_54 : decode cX10_check 54 = .ok (.ifCond .eq 10, 3) := by decide +kernel
theorem dX10_check_57 : decode cX10_check 57 = .ok (.aload_n 0, 1) := by decide +kernel
theorem dX10_check_58 : decode cX10_check 58 = .ok (.iload 7, 2) := by decide +kernel
theorem dX10_check_60 : decode cX10_check 60 = .ok (.invokevirtual 94, 3) := by decide +kernel
theorem dX10_check_63 : decode cX10_check 63 = .ok (.ireturn, 1) := by decide +kernel
theorem dX10_check_64 : decode cX10_check 64 = .ok (.aload 6, 2) := by decide +kernel
theorem dX10_check_66 : decode cX10_check 66 = .ok (.iload_n 2, 1) := by decide +kernel
theorem dX10_check_67 : decode cX10_check 67 = .ok (.aload_n 0, 1) := by decide +kernel
theorem dX10_check_68 : decode cX10_check 68 = .ok (.getfield 12, 3) := by decide +kernel
theorem dX10_check_71 : decode cX10_check 71 = .ok (.getfield 121, 3) := by decide +kernel
theorem dX10_check_74 : decode cX10_check 74 = .ok (.iload_n 3, 1) := by decide +kernel
theorem dX10_check_75 : decode cX10_check 75 = .ok (.aaload, 1) := by decide +kernel
theorem dX10_check_76 : decode cX10_check 76 = .ok (.iload 4, 2) := by decide +kernel
theorem dX10_check_78 : decode cX10_check 78 = .ok (.invokevirtual 217, 3) := by decide +kernel
theorem dX10_check_81 : decode cX10_check 81 = .ok (.istore 8, 2) := by decide +kernel
theorem dX10_check_83 : decode cX10_check 83 = .ok (.iload 8, 2) := by decide +kernel
theorem dX10_check_85 : decode cX10_check 85 = .ok (.ifCond .ge 6, 3) := by decide +kernel
theorem dX10_check_88 : decode cX10_check 88 = .ok (.ldc 93, 2) := by decide +kernel
theorem dX10_check_90 : decode cX10_check 90 = .ok (.ireturn, 1) := by decide +kernel
theorem dX10_check_91 : decode cX10_check 91 = .ok (.aload_n 0, 1) := by decide +kernel
theorem dX10_check_92 : decode cX10_check 92 = .ok (.aload 6, 2) := by decide +kernel
theorem dX10_check_94 : decode cX10_check 94 = .ok (.invokevirtual 187, 3) := by decide +kernel
theorem dX10_check_97 : decode cX10_check 97 = .ok (.istore 9, 2) := by decide +kernel
theorem dX10_check_99 : decode cX10_check 99 = .ok (.aload_n 0, 1) := by decide +kernel
theorem dX10_check_100 : decode cX10_check 100 = .ok (.iload 8, 2) := by decide +kernel
theorem dX10_check_102 : decode cX10_check 102 = .ok (.iload 9, 2) := by decide +kernel
theorem dX10_check_104 : decode cX10_check 104 = .ok (.invokestatic 191, 3) := by decide +kernel
theorem dX10_check_107 : decode cX10_check 107 = .ok (.aload 6, 2) := by decide +kernel
theorem dX10_check_109 : decode cX10_check 109 = .ok (.invokevirtual 183, 3) := by decide +kernel
theorem dX10_check_112 : decode cX10_check 112 = .ok (.iload 9, 2) := by decide +kernel
theorem dX10_check_114 : decode cX10_check 114 = .ok (.invokestatic 191, 3) := by decide +kernel
theorem dX10_check_117 : decode cX10_check 117 = .ok (.if_icmp .ne 7, 3) := by decide +kernel
theorem dX10_check_120 : decode cX10_check 120 = .ok (.iconst 1, 1) := by decide +kernel
theorem dX10_check_121 : decode cX10_check 121 = .ok (.goto 4, 3) := by decide +kernel
theorem dX10_check_124 : decode cX10_check 124 = .ok (.iconst 0, 1) := by decide +kernel
theorem dX10_check_125 : decode cX10_check 125 = .ok (.invokevirtual 102, 3) := by decide +kernel
theorem dX10_check_128 : decode cX10_check 128 = .ok (.ireturn, 1) := by decide +kernel
theorem dX10_lies_0 : decode cX10_lies 0 = .ok (.aload_n 0, 1) := by decide +kernel
theorem dX10_lies_1 : decode cX10_lies 1 = .ok (.iload_n 1, 1) := by decide +kernel
theorem dX10_lies_2 : decode cX10_lies 2 = .ok (.invokevirtual 170, 3) := by decide +kernel
theorem dX10_lies_5 : decode cX10_lies 5 = .ok (.astore_n 3, 1) := by decide +kernel
theorem dX10_lies_6 : decode cX10_lies 6 = .ok (.aload_n 3, 1) := by decide +kernel
theorem dX10_lies_7 : decode cX10_lies 7 = .ok (.ifnull 10, 3) := by decide +kernel
theorem dX10_lies_10 : decode cX10_lies 10 = .ok (.iload_n 2, 1) := by decide +kernel
theorem dX10_lies_11 : decode cX10_lies 11 = .ok (.invokestatic 221, 3) := by decide +kernel
theorem dX10_lies_14 : decode cX10_lies 14 = .ok (.ifCond .ne 6, 3) := by decide +kernel
theorem dX10_lies_17 : decode cX10_lies 17 = .ok (.ldc 93, 2) := by decide +kernel
theorem dX10_lies_19 : decode cX10_lies 19 = .ok (.ireturn, 1) := by decide +kernel
theorem dX10_lies_20 : decode cX10_lies 20 = .ok (.aload_n 0, 1) := by decide +kernel
theorem dX10_lies_21 : decode cX10_lies 21 = .ok (.aload_n 3, 1) := by decide +kernel
theorem dX10_lies_22 : decode cX10_lies 22 = .ok (.invokevirtual 187, 3) := by decide +kernel
theorem dX10_lies_25 : decode cX10_lies 25 = .ok (.istore 4, 2) := by decide +kernel
theorem dX10_lies_27 : decode cX10_lies 27 = .ok (.aload_n 3, 1) := by decide +kernel
theorem dX10_lies_28 : decode cX10_lies 28 = .ok (.invokevirtual 183, 3) := by decide +kernel
theorem dX10_lies_31 : decode cX10_lies 31 = .ok (.iload 4, 2) := by decide +kernel
theorem dX10_lies_33 : decode cX10_lies 33 = .ok (.invokestatic 191, 3) := by decide +kernel
theorem dX10_lies_36 : decode cX10_lies 36 = .ok (.istore 5, 2) := by decide +kernel
theorem dX10_lies_38 : decode cX10_lies 38 = .ok (.iconst 0, 1) := by decide +kernel
theorem dX10_lies_39 : decode cX10_lies 39 = .ok (.istore 6, 2) := by decide +kernel
theorem dX10_lies_41 : decode cX10_lies 41 = .ok (.iconst 0, 1) := by decide +kernel
theorem dX10_lies_42 : decode cX10_lies 42 = .ok (.istore 7, 2) := by decide +kernel
theorem dX10_lies_44 : decode cX10_lies 44 = .ok (.iload 7, 2) := by decide +kernel
theorem dX10_lies_46 : decode cX10_lies 46 = .ok (.sipush 999, 3) := by decide +kernel
theorem dX10_lies_49 : decode cX10_lies 49 = .ok (.if_icmp .gt 29, 3) := by decide +kernel
theorem dX10_lies_52 : decode cX10_lies 52 = .ok (.aload_n 3, 1) := by decide +kernel
theorem dX10_lies_53 : decode cX10_lies 53 = .ok (.iload_n 2, 1) := by decide +kernel
theorem dX10_lies_54 : decode cX10_lies 54 = .ok (.iload 7, 2) := by decide +kernel
theorem dX10_lies_56 : decode cX10_lies 56 = .ok (.invokevirtual 224, 3) := by decide +kernel
theorem dX10_lies_59 : decode cX10_lies 59 = .ok (.iload 4, 2) := by decide +kernel
theorem dX10_lies_61 : decode cX10_lies 61 = .ok (.invokestatic 191, 3) := by decide +kernel
theorem dX10_lies_64 : decode cX10_lies 64 = .ok (.iload 5, 2) := by decide +kernel
theorem dX10_lies_66 : decode cX10_lies 66 = .ok (.if_icmp .ne 6, 3) := by decide +kernel
theorem dX10_lies_69 : decode cX10_lies 69 = .ok (.iinc 6 1, 3) := by decide +kernel
theorem dX10_lies_72 : decode cX10_lies 72 = .ok (.iinc 7 1, 3) := by decide +kernel
theorem dX10_lies_75 : decode cX10_lies 75 = .ok (.goto (-31), 3) := by decide +kernel
theorem dX10_lies_78 : decode cX10_lies 78 = .ok (.iload 6, 2) := by decide +kernel
theorem dX10_lies_80 : decode cX10_lies 80 = .ok (.ireturn, 1) := by decide +kernel
theorem dX10_over_0 : decode cX10_over 0 = .ok (.aload_n 0, 1) := by decide +kernel
theorem dX10_over_1 : decode cX10_over 1 = .ok (.iload_n 1, 1) := by decide +kernel
theorem dX10_over_2 : decode cX10_over 2 = .ok (.invokevirtual 170, 3) := by decide +kernel
theorem dX10_over_5 : decode cX10_over 5 = .ok (.astore 4, 2) := by decide +kernel
theorem dX10_over_7 : decode cX10_over 7 = .ok (.aload 4, 2) := by decide +kernel
theorem dX10_over_9 : decode cX10_over 9 = .ok (.ifnull 21, 3) := by decide +kernel
theorem dX10_over_12 : decode cX10_over 12 = .ok (.iload_n 2, 1) := by decide +kernel
theorem dX10_over_13 : decode cX10_over 13 = .ok (.invokestatic 221, 3) := by decide +kernel
theorem dX10_over_16 : decode cX10_over 16 = .ok (.ifCond .eq 14, 3) := by decide +kernel
theorem dX10_over_19 : decode cX10_over 19 = .ok (.iload_n 3, 1) := by decide +kernel
theorem dX10_over_20 : decode cX10_over 20 = .ok (.iconst 0, 1) := by decide +kernel
theorem dX10_over_21 : decode cX10_over 21 = .ok (.sipush 999, 3) := by decide +kernel
theorem dX10_over_24 : decode cX10_over 24 = .ok (.invokestatic 89, 3) := by decide +kernel
theorem dX10_over_27 : decode cX10_over 27 = .ok (.ifCond .ne 6, 3) := by decide +kernel
theorem dX10_over_30 : decode cX10_over 30 = .ok (.ldc 93, 2) := by decide +kernel
theorem dX10_over_32 : decode cX10_over 32 = .ok (.ireturn, 1) := by decide +kernel
theorem dX10_over_33 : decode cX10_over 33 = .ok (.aload 4, 2) := by decide +kernel
theorem dX10_over_35 : decode cX10_over 35 = .ok (.getfield 174, 3) := by decide +kernel
theorem dX10_over_38 : decode cX10_over 38 = .ok (.iload_n 2, 1) := by decide +kernel
theorem dX10_over_39 : decode cX10_over 39 = .ok (.iaload, 1) := by decide +kernel
theorem dX10_over_40 : decode cX10_over 40 = .ok (.istore 5, 2) := by decide +kernel
theorem dX10_over_42 : decode cX10_over 42 = .ok (.iload 5, 2) := by decide +kernel
theorem dX10_over_44 : decode cX10_over 44 = .ok (.iload_n 3, 1) := by decide +kernel
theorem dX10_over_45 : decode cX10_over 45 = .ok (.if_icmp .ge 8, 3) := by decide +kernel
theorem dX10_over_48 : decode cX10_over 48 = .ok (.ldc 158, 2) := by decide +kernel
theorem dX10_over_50 : decode cX10_over 50 = .ok (.goto 16, 3) := by decide +kernel
theorem dX10_over_53 : decode cX10_over 53 = .ok (.aload 4, 2) := by decide +kernel
theorem dX10_over_55 : decode cX10_over 55 = .ok (.iload_n 2, 1) := by decide +kernel
theorem dX10_over_56 : decode cX10_over 56 = .ok (.invokevirtual 227, 3) := by decide +kernel
theorem dX10_over_59 : decode cX10_over 59 = .ok (.iload 5, 2) := by decide +kernel
theorem dX10_over_61 : decode cX10_over 61 = .ok (.iload_n 3, 1) := by decide +kernel
theorem dX10_over_62 : decode cX10_over 62 = .ok (.isub, 1) := by decide +kernel
theorem dX10_over_63 : decode cX10_over 63 = .ok (.invokestatic 230, 3) := by decide +kernel
theorem dX10_over_66 : decode cX10_over 66 = .ok (.ireturn, 1) := by decide +kernel
theorem dX10_isOver_0 : decode cX10_isOver 0 = .ok (.aload_n 0, 1) := by decide +kernel
theorem dX10_isOver_1 : decode cX10_isOver 1 = .ok (.iload_n 1, 1) := by decide +kernel
theorem dX10_isOver_2 : decode cX10_isOver 2 = .ok (.invokevirtual 170, 3) := by decide +kernel
theorem dX10_isOver_5 : decode cX10_isOver 5 = .ok (.astore 5, 2) := by decide +kernel
theorem dX10_isOver_7 : decode cX10_isOver 7 = .ok (.aload 5, 2) := by decide +kernel
theorem dX10_isOver_9 : decode cX10_isOver 9 = .ok (.ifnull 32, 3) := by decide +kernel
theorem dX10_isOver_12 : decode cX10_isOver 12 = .ok (.iload_n 2, 1) := by decide +kernel
theorem dX10_isOver_13 : decode cX10_isOver 13 = .ok (.invokestatic 221, 3) := by decide +kernel
theorem dX10_isOver_16 : decode cX10_isOver 16 = .ok (.ifCond .eq 25, 3) := by decide +kernel
theorem dX10_isOver_19 : decode cX10_isOver 19 = .ok (.iload_n 3, 1) := by decide +kernel
theorem dX10_isOver_20 : decode cX10_isOver 20 = .ok (.iconst 0, 1) := by decide +kernel
theorem dX10_isOver_21 : decode cX10_isOver 21 = .ok (.sipush 999, 3) := by decide +kernel
theorem dX10_isOver_24 : decode cX10_isOver 24 = .ok (.invokestatic 89, 3) := by decide +kernel
theorem dX10_isOver_27 : decode cX10_isOver 27 = .ok (.ifCond .eq 14, 3) := by decide +kernel
theorem dX10_isOver_30 : decode cX10_isOver 30 = .ok (.iload 4, 2) := by decide +kernel
theorem dX10_isOver_32 : decode cX10_isOver 32 = .ok (.iconst 0, 1) := by decide +kernel
theorem dX10_isOver_33 : decode cX10_isOver 33 = .ok (.ldc 140, 2) := by decide +kernel
theorem dX10_isOver_35 : decode cX10_isOver 35 = .ok (.invokestatic 89, 3) := by decide +kernel
theorem dX10_isOver_38 : decode cX10_isOver 38 = .ok (.ifCond .ne 6, 3) := by decide +kernel
theorem dX10_isOver_41 : decode cX10_isOver 41 = .ok (.ldc 93, 2) := by decide +kernel
theorem dX10_isOver_43 : decode cX10_isOver 43 = .ok (.ireturn, 1) := by decide +kernel
theorem dX10_isOver_44 : decode cX10_isOver 44 = .ok (.iload 4, 2) := by decide +kernel
theorem dX10_isOver_46 : decode cX10_isOver 46 = .ok (.iload_n 3, 1) := by decide +kernel
theorem dX10_isOver_47 : decode cX10_isOver 47 = .ok (.iconst 1, 1) := by decide +kernel
theorem dX10_isOver_48 : decode cX10_isOver 48 = .ok (.iadd, 1) := by decide +kernel
theorem dX10_isOver_49 : decode cX10_isOver 49 = .ok (.invokestatic 230, 3) := by decide +kernel
theorem dX10_isOver_52 : decode cX10_isOver 52 = .ok (.aload 5, 2) := by decide +kernel
theorem dX10_isOver_54 : decode cX10_isOver 54 = .ok (.iload_n 2, 1) := by decide +kernel
theorem dX10_isOver_55 : decode cX10_isOver 55 = .ok (.invokevirtual 177, 3) := by decide +kernel
theorem dX10_isOver_58 : decode cX10_isOver 58 = .ok (.if_icmp .ne 7, 3) := by decide +kernel
theorem dX10_isOver_61 : decode cX10_isOver 61 = .ok (.iconst 1, 1) := by decide +kernel
theorem dX10_isOver_62 : decode cX10_isOver 62 = .ok (.goto 4, 3) := by decide +kernel
theorem dX10_isOver_65 : decode cX10_isOver 65 = .ok (.iconst 0, 1) := by decide +kernel
theorem dX10_isOver_66 : decode cX10_isOver 66 = .ok (.ireturn, 1) := by decide +kernel
theorem dX10_secret_0 : decode cX10_secret 0 = .ok (.iload_n 1, 1) := by decide +kernel
theorem dX10_secret_1 : decode cX10_secret 1 = .ok (.invokestatic 233, 3) := by decide +kernel
theorem dX10_secret_4 : decode cX10_secret 4 = .ok (.ifCond .eq 13, 3) := by decide +kernel
theorem dX10_secret_7 : decode cX10_secret 7 = .ok (.iload_n 2, 1) := by decide +kernel
theorem dX10_secret_8 : decode cX10_secret 8 = .ok (.iconst 0, 1) := by decide +kernel
theorem dX10_secret_9 : decode cX10_secret 9 = .ok (.bipush 22, 2) := by decide +kernel
theorem dX10_secret_11 : decode cX10_secret 11 = .ok (.invokestatic 89, 3) := by decide +kernel
theorem dX10_secret_14 : decode cX10_secret 14 = .ok (.ifCond .ne 6, 3) := by decide +kernel
theorem dX10_secret_17 : decode cX10_secret 17 = .ok (.ldc 93, 2) := by decide +kernel
theorem dX10_secret_19 : decode cX10_secret 19 = .ok (.ireturn, 1) := by decide +kernel
theorem dX10_secret_20 : decode cX10_secret 20 = .ok (.iload_n 2, 1) := by decide +kernel
theorem dX10_secret_21 : decode cX10_secret 21 = .ok (.ifCond .eq 10, 3) := by decide +kernel
theorem dX10_secret_24 : decode cX10_secret 24 = .ok (.aload_n 0, 1) := by decide +kernel
theorem dX10_secret_25 : decode cX10_secret 25 = .ok (.getfield 29, 3) := by decide +kernel
theorem dX10_secret_28 : decode cX10_secret 28 = .ok (.iload_n 1, 1) := by decide +kernel
theorem dX10_secret_29 : decode cX10_secret 29 = .ok (.iload_n 2, 1) := by decide +kernel
theorem dX10_secret_30 : decode cX10_secret 30 = .ok (.iastore, 1) := by decide +kernel
theorem dX10_secret_31 : decode cX10_secret 31 = .ok (.aload_n 0, 1) := by decide +kernel
theorem dX10_secret_32 : decode cX10_secret 32 = .ok (.iload_n 1, 1) := by decide +kernel
theorem dX10_secret_33 : decode cX10_secret 33 = .ok (.invokevirtual 236, 3) := by decide +kernel
theorem dX10_secret_36 : decode cX10_secret 36 = .ok (.ireturn, 1) := by decide +kernel
theorem dX10_answer_0 : decode cX10_answer 0 = .ok (.iload_n 1, 1) := by decide +kernel
theorem dX10_answer_1 : decode cX10_answer 1 = .ok (.invokestatic 233, 3) := by decide +kernel
theorem dX10_answer_4 : decode cX10_answer 4 = .ok (.ifCond .eq 33, 3) := by decide +kernel
theorem dX10_answer_7 : decode cX10_answer 7 = .ok (.iload_n 2, 1) := by decide +kernel
theorem dX10_answer_8 : decode cX10_answer 8 = .ok (.iconst 0, 1) := by decide +kernel
theorem dX10_answer_9 : decode cX10_answer 9 = .ok (.bipush 22, 2) := by decide +kernel
theorem dX10_answer_11 : decode cX10_answer 11 = .ok (.invokestatic 89, 3) := by decide +kernel
theorem dX10_answer_14 : decode cX10_answer 14 = .ok (.ifCond .eq 23, 3) := by decide +kernel
theorem dX10_answer_17 : decode cX10_answer 17 = .ok (.iload_n 3, 1) := by decide +kernel
theorem dX10_answer_18 : decode cX10_answer 18 = .ok (.iconst 0, 1) := by decide +kernel
theorem dX10_answer_19 : decode cX10_answer 19 = .ok (.bipush 22, 2) := by decide +kernel
theorem dX10_answer_21 : decode cX10_answer 21 = .ok (.invokestatic 89, 3) := by decide +kernel
theorem dX10_answer_24 : decode cX10_answer 24 = .ok (.ifCond .eq 13, 3) := by decide +kernel
theorem dX10_answer_27 : decode cX10_answer 27 = .ok (.iload 4, 2) := by decide +kernel
theorem dX10_answer_29 : decode cX10_answer 29 = .ok (.iconst 0, 1) := by decide +kernel
theorem dX10_answer_30 : decode cX10_answer 30 = .ok (.iconst 1, 1) := by decide +kernel
theorem dX10_answer_31 : decode cX10_answer 31 = .ok (.invokestatic 89, 3) := by decide +kernel
theorem dX10_answer_34 : decode cX10_answer 34 = .ok (.ifCond .ne 6, 3) := by decide +kernel
theorem dX10_answer_37 : decode cX10_answer 37 = .ok (.ldc 93, 2) := by decide +kernel
theorem dX10_answer_39 : decode cX10_answer 39 = .ok (.ireturn, 1) := by decide +kernel
theorem dX10_answer_40 : decode cX10_answer 40 = .ok (.iload 4, 2) := by decide +kernel
theorem dX10_answer_42 : decode cX10_answer 42 = .ok (.ifCond .ne 11, 3) := by decide +kernel
theorem dX10_answer_45 : decode cX10_answer 45 = .ok (.iconst 4, 1) := by decide +kernel
theorem dX10_answer_46 : decode cX10_answer 46 = .ok (.iload_n 2, 1) := by decide +kernel
theorem dX10_answer_47 : decode cX10_answer 47 = .ok (.invokestatic 239, 3) := by decide +kernel
theorem dX10_answer_50 : decode cX10_answer 50 = .ok (.goto 16, 3) := by decide +kernel
theorem dX10_answer_53 : decode cX10_answer 53 = .ok (.iload_n 2, 1) := by decide +kernel
theorem dX10_answer_54 : decode cX10_answer 54 = .ok (.iload_n 3, 1) := by decide +kernel
theorem dX10_answer_55 : decode cX10_answer 55 = .ok (.aload_n 0, 1) := by decide +kernel
theorem dX10_answer_56 : decode cX10_answer 56 = .ok (.getfield 29, 3) := by decide +kernel
theorem dX10_answer_59 : decode cX10_answer 59 = .ok (.iload_n 1, 1) := by decide +kernel
theorem dX10_answer_60 : decode cX10_answer 60 = .ok (.iaload, 1) := by decide +kernel
theorem dX10_answer_61 : decode cX10_answer 61 = .ok (.imul, 1) := by decide +kernel
theorem dX10_answer_62 : decode cX10_answer 62 = .ok (.iadd, 1) := by decide +kernel
theorem dX10_answer_63 : decode cX10_answer 63 = .ok (.bipush 23, 2) := by decide +kernel
theorem dX10_answer_65 : decode cX10_answer 65 = .ok (.irem, 1) := by decide +kernel
theorem dX10_answer_66 : decode cX10_answer 66 = .ok (.ireturn, 1) := by decide +kernel
theorem dX10_taken_0 : decode cX10_taken 0 = .ok (.iload_n 1, 1) := by decide +kernel
theorem dX10_taken_1 : decode cX10_taken 1 = .ok (.invokestatic 233, 3) := by decide +kernel
theorem dX10_taken_4 : decode cX10_taken 4 = .ok (.ifCond .eq 34, 3) := by decide +kernel
theorem dX10_taken_7 : decode cX10_taken 7 = .ok (.iload_n 2, 1) := by decide +kernel
theorem dX10_taken_8 : decode cX10_taken 8 = .ok (.iconst 0, 1) := by decide +kernel
theorem dX10_taken_9 : decode cX10_taken 9 = .ok (.bipush 46, 2) := by decide +kernel
theorem dX10_taken_11 : decode cX10_taken 11 = .ok (.invokestatic 89, 3) := by decide +kernel
theorem dX10_taken_14 : decode cX10_taken 14 = .ok (.ifCond .eq 24, 3) := by decide +kernel
theorem dX10_taken_17 : decode cX10_taken 17 = .ok (.iload_n 3, 1) := by decide +kernel
theorem dX10_taken_18 : decode cX10_taken 18 = .ok (.iconst 0, 1) := by decide +kernel
theorem dX10_taken_19 : decode cX10_taken 19 = .ok (.bipush 22, 2) := by decide +kernel
theorem dX10_taken_21 : decode cX10_taken 21 = .ok (.invokestatic 89, 3) := by decide +kernel
theorem dX10_taken_24 : decode cX10_taken 24 = .ok (.ifCond .eq 14, 3) := by decide +kernel
theorem dX10_taken_27 : decode cX10_taken 27 = .ok (.iload 4, 2) := by decide +kernel
theorem dX10_taken_29 : decode cX10_taken 29 = .ok (.iconst 0, 1) := by decide +kernel
theorem dX10_taken_30 : decode cX10_taken 30 = .ok (.bipush 22, 2) := by decide +kernel
theorem dX10_taken_32 : decode cX10_taken 32 = .ok (.invokestatic 89, 3) := by decide +kernel
theorem dX10_taken_35 : decode cX10_taken 35 = .ok (.ifCond .ne 6, 3) := by decide +kernel
theorem dX10_taken_38 : decode cX10_taken 38 = .ok (.ldc 93, 2) := by decide +kernel
theorem dX10_taken_40 : decode cX10_taken 40 = .ok (.ireturn, 1) := by decide +kernel
theorem dX10_taken_41 : decode cX10_taken 41 = .ok (.aload_n 0, 1) := by decide +kernel
theorem dX10_taken_42 : decode cX10_taken 42 = .ok (.iload_n 1, 1) := by decide +kernel
theorem dX10_taken_43 : decode cX10_taken 43 = .ok (.iload_n 2, 1) := by decide +kernel
theorem dX10_taken_44 : decode cX10_taken 44 = .ok (.iload_n 3, 1) := by decide +kernel
theorem dX10_taken_45 : decode cX10_taken 45 = .ok (.iload 4, 2) := by decide +kernel
theorem dX10_taken_47 : decode cX10_taken 47 = .ok (.invokevirtual 242, 3) := by decide +kernel
theorem dX10_taken_50 : decode cX10_taken 50 = .ok (.ifCond .eq 7, 3) := by decide +kernel
theorem dX10_taken_53 : decode cX10_taken 53 = .ok (.iconst 1, 1) := by decide +kernel
theorem dX10_taken_54 : decode cX10_taken 54 = .ok (.goto 4, 3) := by decide +kernel
theorem dX10_taken_57 : decode cX10_taken 57 = .ok (.iconst 0, 1) := by decide +kernel
theorem dX10_taken_58 : decode cX10_taken 58 = .ok (.ireturn, 1) := by decide +kernel
theorem dX10_odds_0 : decode cX10_odds 0 = .ok (.iload_n 1, 1) := by decide +kernel
theorem dX10_odds_1 : decode cX10_odds 1 = .ok (.invokestatic 233, 3) := by decide +kernel
theorem dX10_odds_4 : decode cX10_odds 4 = .ok (.ifCond .eq 23, 3) := by decide +kernel
theorem dX10_odds_7 : decode cX10_odds 7 = .ok (.iload_n 2, 1) := by decide +kernel
theorem dX10_odds_8 : decode cX10_odds 8 = .ok (.iconst 0, 1) := by decide +kernel
theorem dX10_odds_9 : decode cX10_odds 9 = .ok (.bipush 46, 2) := by decide +kernel
theorem dX10_odds_11 : decode cX10_odds 11 = .ok (.invokestatic 89, 3) := by decide +kernel
theorem dX10_odds_14 : decode cX10_odds 14 = .ok (.ifCond .eq 13, 3) := by decide +kernel
theorem dX10_odds_17 : decode cX10_odds 17 = .ok (.iload_n 3, 1) := by decide +kernel
theorem dX10_odds_18 : decode cX10_odds 18 = .ok (.iconst 0, 1) := by decide +kernel
theorem dX10_odds_19 : decode cX10_odds 19 = .ok (.bipush 22, 2) := by decide +kernel
theorem dX10_odds_21 : decode cX10_odds 21 = .ok (.invokestatic 89, 3) := by decide +kernel
theorem dX10_odds_24 : decode cX10_odds 24 = .ok (.ifCond .ne 6, 3) := by decide +kernel
theorem dX10_odds_27 : decode cX10_odds 27 = .ok (.ldc 93, 2) := by decide +kernel
theorem dX10_odds_29 : decode cX10_odds 29 = .ok (.ireturn, 1) := by decide +kernel
theorem dX10_odds_30 : decode cX10_odds 30 = .ok (.iconst 0, 1) := by decide +kernel
theorem dX10_odds_31 : decode cX10_odds 31 = .ok (.istore 4, 2) := by decide +kernel
theorem dX10_odds_33 : decode cX10_odds 33 = .ok (.iconst 0, 1) := by decide +kernel
theorem dX10_odds_34 : decode cX10_odds 34 = .ok (.istore 5, 2) := by decide +kernel
theorem dX10_odds_36 : decode cX10_odds 36 = .ok (.iload 5, 2) := by decide +kernel
theorem dX10_odds_38 : decode cX10_odds 38 = .ok (.bipush 23, 2) := by decide +kernel
theorem dX10_odds_40 : decode cX10_odds 40 = .ok (.if_icmp .ge 24, 3) := by decide +kernel
theorem dX10_odds_43 : decode cX10_odds 43 = .ok (.aload_n 0, 1) := by decide +kernel
theorem dX10_odds_44 : decode cX10_odds 44 = .ok (.iload_n 1, 1) := by decide +kernel
theorem dX10_odds_45 : decode cX10_odds 45 = .ok (.iload_n 2, 1) := by decide +kernel
theorem dX10_odds_46 : decode cX10_odds 46 = .ok (.iload 5, 2) := by decide +kernel
theorem dX10_odds_48 : decode cX10_odds 48 = .ok (.iload_n 3, 1) := by decide +kernel
theorem dX10_odds_49 : decode cX10_odds 49 = .ok (.invokevirtual 242, 3) := by decide +kernel
theorem dX10_odds_52 : decode cX10_odds 52 = .ok (.ifCond .eq 6, 3) := by decide +kernel
theorem dX10_odds_55 : decode cX10_odds 55 = .ok (.iinc 4 1, 3) := by decide +kernel
theorem dX10_odds_58 : decode cX10_odds 58 = .ok (.iinc 5 1, 3) := by decide +kernel
theorem dX10_odds_61 : decode cX10_odds 61 = .ok (.goto (-25), 3) := by decide +kernel
theorem dX10_odds_64 : decode cX10_odds 64 = .ok (.iload 4, 2) := by decide +kernel
theorem dX10_odds_66 : decode cX10_odds 66 = .ok (.ireturn, 1) := by decide +kernel
theorem dX10_part_0 : decode cX10_part 0 = .ok (.iload_n 1, 1) := by decide +kernel
theorem dX10_part_1 : decode cX10_part 1 = .ok (.iconst 0, 1) := by decide +kernel
theorem dX10_part_2 : decode cX10_part 2 = .ok (.sipush 256, 3) := by decide +kernel
theorem dX10_part_5 : decode cX10_part 5 = .ok (.invokestatic 89, 3) := by decide +kernel
theorem dX10_part_8 : decode cX10_part 8 = .ok (.ifCond .eq 22, 3) := by decide +kernel
theorem dX10_part_11 : decode cX10_part 11 = .ok (.iload_n 2, 1) := by decide +kernel
theorem dX10_part_12 : decode cX10_part 12 = .ok (.iconst 1, 1) := by decide +kernel
theorem dX10_part_13 : decode cX10_part 13 = .ok (.iconst 4, 1) := by decide +kernel
theorem dX10_part_14 : decode cX10_part 14 = .ok (.invokestatic 89, 3) := by decide +kernel
theorem dX10_part_17 : decode cX10_part 17 = .ok (.ifCond .eq 13, 3) := by decide +kernel
theorem dX10_part_20 : decode cX10_part 20 = .ok (.iload_n 3, 1) := by decide +kernel
theorem dX10_part_21 : decode cX10_part 21 = .ok (.iconst 1, 1) := by decide +kernel
theorem dX10_part_22 : decode cX10_part 22 = .ok (.bipush 6, 2) := by decide +kernel
theorem dX10_part_24 : decode cX10_part 24 = .ok (.invokestatic 89, 3) := by decide +kernel
theorem dX10_part_27 : decode cX10_part 27 = .ok (.ifCond .ne 6, 3) := by decide +kernel
theorem dX10_part_30 : decode cX10_part 30 = .ok (.ldc 93, 2) := by decide +kernel
theorem dX10_part_32 : decode cX10_part 32 = .ok (.ireturn, 1) := by decide +kernel
theorem dX10_part_33 : decode cX10_part 33 = .ok (.iload_n 1, 1) := by decide +kernel
theorem dX10_part_34 : decode cX10_part 34 = .ok (.iload_n 2, 1) := by decide +kernel
theorem dX10_part_35 : decode cX10_part 35 = .ok (.iload_n 3, 1) := by decide +kernel
theorem dX10_part_36 : decode cX10_part 36 = .ok (.invokestatic 246, 3) := by decide +kernel
theorem dX10_part_39 : decode cX10_part 39 = .ok (.ireturn, 1) := by decide +kernel
theorem dX10_friends_0 : decode cX10_friends 0 = .ok (.iload_n 1, 1) := by decide +kernel
theorem dX10_friends_1 : decode cX10_friends 1 = .ok (.invokestatic 85, 3) := by decide +kernel
theorem dX10_friends_4 : decode cX10_friends 4 = .ok (.ifCond .eq 23, 3) := by decide +kernel
theorem dX10_friends_7 : decode cX10_friends 7 = .ok (.iload_n 3, 1) := by decide +kernel
theorem dX10_friends_8 : decode cX10_friends 8 = .ok (.iconst 1, 1) := by decide +kernel
theorem dX10_friends_9 : decode cX10_friends 9 = .ok (.bipush 6, 2) := by decide +kernel
theorem dX10_friends_11 : decode cX10_friends 11 = .ok (.invokestatic 89, 3) := by decide +kernel
theorem dX10_friends_14 : decode cX10_friends 14 = .ok (.ifCond .eq 13, 3) := by decide +kernel
theorem dX10_friends_17 : decode cX10_friends 17 = .ok (.iload 4, 2) := by decide +kernel
theorem dX10_friends_19 : decode cX10_friends 19 = .ok (.iconst 0, 1) := by decide +kernel
theorem dX10_friends_20 : decode cX10_friends 20 = .ok (.iconst 4, 1) := by decide +kernel
theorem dX10_friends_21 : decode cX10_friends 21 = .ok (.invokestatic 89, 3) := by decide +kernel
theorem dX10_friends_24 : decode cX10_friends 24 = .ok (.ifCond .ne 6, 3) := by decide +kernel
theorem dX10_friends_27 : decode cX10_friends 27 = .ok (.ldc 93, 2) := by decide +kernel
theorem dX10_friends_29 : decode cX10_friends 29 = .ok (.ireturn, 1) := by decide +kernel
theorem dX10_friends_30 : decode cX10_friends 30 = .ok (.aload_n 0, 1) := by decide +kernel
theorem dX10_friends_31 : decode cX10_friends 31 = .ok (.getfield 12, 3) := by decide +kernel
theorem dX10_friends_34 : decode cX10_friends 34 = .ok (.iload_n 1, 1) := by decide +kernel
theorem dX10_friends_35 : decode cX10_friends 35 = .ok (.iload_n 2, 1) := by decide +kernel
theorem dX10_friends_36 : decode cX10_friends 36 = .ok (.iconst 2, 1) := by decide +kernel
theorem dX10_friends_37 : decode cX10_friends 37 = .ok (.iload_n 3, 1) := by decide +kernel
theorem dX10_friends_38 : decode cX10_friends 38 = .ok (.imul, 1) := by decide +kernel
theorem dX10_friends_39 : decode cX10_friends 39 = .ok (.invokevirtual 105, 3) := by decide +kernel
theorem dX10_friends_42 : decode cX10_friends 42 = .ok (.istore 5, 2) := by decide +kernel
theorem dX10_friends_44 : decode cX10_friends 44 = .ok (.iload 5, 2) := by decide +kernel
theorem dX10_friends_46 : decode cX10_friends 46 = .ok (.ifCond .eq 10, 3) := by decide +kernel
theorem dX10_friends_49 : decode cX10_friends 49 = .ok (.aload_n 0, 1) := by decide +kernel
theorem dX10_friends_50 : decode cX10_friends 50 = .ok (.iload 5, 2) := by decide +kernel
theorem dX10_friends_52 : decode cX10_friends 52 = .ok (.invokevirtual 94, 3) := by decide +kernel
theorem dX10_friends_55 : decode cX10_friends 55 = .ok (.ireturn, 1) := by decide +kernel
theorem dX10_friends_56 : decode cX10_friends 56 = .ok (.aload_n 0, 1) := by decide +kernel
theorem dX10_friends_57 : decode cX10_friends 57 = .ok (.getfield 36, 3) := by decide +kernel
theorem dX10_friends_60 : decode cX10_friends 60 = .ok (.aload_n 0, 1) := by decide +kernel
theorem dX10_friends_61 : decode cX10_friends 61 = .ok (.getfield 12, 3) := by decide +kernel
theorem dX10_friends_64 : decode cX10_friends 64 = .ok (.getfield 121, 3) := by decide +kernel
theorem dX10_friends_67 : decode cX10_friends 67 = .ok (.iload_n 1, 1) := by decide +kernel
theorem dX10_friends_68 : decode cX10_friends 68 = .ok (.aaload, 1) := by decide +kernel
theorem dX10_friends_69 : decode cX10_friends 69 = .ok (.iload_n 2, 1) := by decide +kernel
theorem dX10_friends_70 : decode cX10_friends 70 = .ok (.iload_n 3, 1) := by decide +kernel
theorem dX10_friends_71 : decode cX10_friends 71 = .ok (.invokevirtual 249, 3) := by decide +kernel
theorem dX10_friends_74 : decode cX10_friends 74 = .ok (.ifCond .ne 6, 3) := by decide +kernel
theorem dX10_friends_77 : decode cX10_friends 77 = .ok (.ldc 93, 2) := by decide +kernel
theorem dX10_friends_79 : decode cX10_friends 79 = .ok (.ireturn, 1) := by decide +kernel
theorem dX10_friends_80 : decode cX10_friends 80 = .ok (.aload_n 0, 1) := by decide +kernel
theorem dX10_friends_81 : decode cX10_friends 81 = .ok (.iload 4, 2) := by decide +kernel
theorem dX10_friends_83 : decode cX10_friends 83 = .ok (.ifCond .ne 15, 3) := by decide +kernel
theorem dX10_friends_86 : decode cX10_friends 86 = .ok (.aload_n 0, 1) := by decide +kernel
theorem dX10_friends_87 : decode cX10_friends 87 = .ok (.getfield 36, 3) := by decide +kernel
theorem dX10_friends_90 : decode cX10_friends 90 = .ok (.iconst 0, 1) := by decide +kernel
theorem dX10_friends_91 : decode cX10_friends 91 = .ok (.iload_n 3, 1) := by decide +kernel
theorem dX10_friends_92 : decode cX10_friends 92 = .ok (.invokevirtual 253, 3) := by decide +kernel
theorem dX10_friends_95 : decode cX10_friends 95 = .ok (.goto 13, 3) := by decide +kernel
theorem dX10_friends_98 : decode cX10_friends 98 = .ok (.aload_n 0, 1) := by decide +kernel
theorem dX10_friends_99 : decode cX10_friends 99 = .ok (.getfield 36, 3) := by decide +kernel
theorem dX10_friends_102 : decode cX10_friends 102 = .ok (.iload_n 3, 1) := by decide +kernel
theorem dX10_friends_103 : decode cX10_friends 103 = .ok (.iload 4, 2) := by decide +kernel
theorem dX10_friends_105 : decode cX10_friends 105 = .ok (.invokevirtual 256, 3) := by decide +kernel
theorem dX10_friends_108 : decode cX10_friends 108 = .ok (.invokevirtual 102, 3) := by decide +kernel
theorem dX10_friends_111 : decode cX10_friends 111 = .ok (.ireturn, 1) := by decide +kernel
theorem dX10_book_0 : decode cX10_book 0 = .ok (.iload_n 1, 1) := by decide +kernel
theorem dX10_book_1 : decode cX10_book 1 = .ok (.invokestatic 259, 3) := by decide +kernel
theorem dX10_book_4 : decode cX10_book 4 = .ok (.ifCond .eq 10, 3) := by decide +kernel
theorem dX10_book_7 : decode cX10_book 7 = .ok (.iload_n 2, 1) := by decide +kernel
theorem dX10_book_8 : decode cX10_book 8 = .ok (.invokestatic 137, 3) := by decide +kernel
theorem dX10_book_11 : decode cX10_book 11 = .ok (.ifCond .ne 6, 3) := by decide +kernel
theorem dX10_book_14 : decode cX10_book 14 = .ok (.ldc 93, 2) := by decide +kernel
theorem dX10_book_16 : decode cX10_book 16 = .ok (.ireturn, 1) := by decide +kernel
theorem dX10_book_17 : decode cX10_book 17 = .ok (.aload_n 0, 1) := by decide +kernel
theorem dX10_book_18 : decode cX10_book 18 = .ok (.getfield 43, 3) := by decide +kernel
theorem dX10_book_21 : decode cX10_book 21 = .ok (.getfield 262, 3) := by decide +kernel
theorem dX10_book_24 : decode cX10_book 24 = .ok (.iload_n 1, 1) := by decide +kernel
theorem dX10_book_25 : decode cX10_book 25 = .ok (.iaload, 1) := by decide +kernel
theorem dX10_book_26 : decode cX10_book 26 = .ok (.istore_n 3, 1) := by decide +kernel
theorem dX10_book_27 : decode cX10_book 27 = .ok (.aload_n 0, 1) := by decide +kernel
theorem dX10_book_28 : decode cX10_book 28 = .ok (.getfield 43, 3) := by decide +kernel
theorem dX10_book_31 : decode cX10_book 31 = .ok (.getfield 262, 3) := by decide +kernel
theorem dX10_book_34 : decode cX10_book 34 = .ok (.iload_n 1, 1) := by decide +kernel
theorem dX10_book_35 : decode cX10_book 35 = .ok (.iload_n 2, 1) := by decide +kernel
theorem dX10_book_36 : decode cX10_book 36 = .ok (.iastore, 1) := by decide +kernel
theorem dX10_book_37 : decode cX10_book 37 = .ok (.iload_n 3, 1) := by decide +kernel
theorem dX10_book_38 : decode cX10_book 38 = .ok (.ireturn, 1) := by decide +kernel
theorem dX10_revoke_0 : decode cX10_revoke 0 = .ok (.aload_n 0, 1) := by decide +kernel
theorem dX10_revoke_1 : decode cX10_revoke 1 = .ok (.iload_n 1, 1) := by decide +kernel
theorem dX10_revoke_2 : decode cX10_revoke 2 = .ok (.invokevirtual 170, 3) := by decide +kernel
theorem dX10_revoke_5 : decode cX10_revoke 5 = .ok (.astore_n 3, 1) := by decide +kernel
theorem dX10_revoke_6 : decode cX10_revoke 6 = .ok (.aload_n 3, 1) := by decide +kernel
theorem dX10_revoke_7 : decode cX10_revoke 7 = .ok (.ifnull 10, 3) := by decide +kernel
theorem dX10_revoke_10 : decode cX10_revoke 10 = .ok (.iload_n 2, 1) := by decide +kernel
theorem dX10_revoke_11 : decode cX10_revoke 11 = .ok (.invokestatic 137, 3) := by decide +kernel
theorem dX10_revoke_14 : decode cX10_revoke 14 = .ok (.ifCond .ne 6, 3) := by decide +kernel
theorem dX10_revoke_17 : decode cX10_revoke 17 = .ok (.ldc 93, 2) := by decide +kernel
theorem dX10_revoke_19 : decode cX10_revoke 19 = .ok (.ireturn, 1) := by decide +kernel
theorem dX10_revoke_20 : decode cX10_revoke 20 = .ok (.aload_n 3, 1) := by decide +kernel
theorem dX10_revoke_21 : decode cX10_revoke 21 = .ok (.getfield 265, 3) := by decide +kernel
theorem dX10_revoke_24 : decode cX10_revoke 24 = .ok (.sipush 1000, 3) := by decide +kernel
theorem dX10_revoke_27 : decode cX10_revoke 27 = .ok (.if_icmp .eq 6, 3) := by decide +kernel
theorem dX10_revoke_30 : decode cX10_revoke 30 = .ok (.ldc 158, 2) := by decide +kernel
theorem dX10_revoke_32 : decode cX10_revoke 32 = .ok (.ireturn, 1) := by decide +kernel
theorem dX10_revoke_33 : decode cX10_revoke 33 = .ok (.aload_n 3, 1) := by decide +kernel
theorem dX10_revoke_34 : decode cX10_revoke 34 = .ok (.iload_n 2, 1) := by decide +kernel
theorem dX10_revoke_35 : decode cX10_revoke 35 = .ok (.putfield 265, 3) := by decide +kernel
theorem dX10_revoke_38 : decode cX10_revoke 38 = .ok (.iconst 1, 1) := by decide +kernel
theorem dX10_revoke_39 : decode cX10_revoke 39 = .ok (.ireturn, 1) := by decide +kernel
theorem dX10_holds_0 : decode cX10_holds 0 = .ok (.aload_n 0, 1) := by decide +kernel
theorem dX10_holds_1 : decode cX10_holds 1 = .ok (.iload_n 1, 1) := by decide +kernel
theorem dX10_holds_2 : decode cX10_holds 2 = .ok (.invokevirtual 170, 3) := by decide +kernel
theorem dX10_holds_5 : decode cX10_holds 5 = .ok (.astore 4, 2) := by decide +kernel
theorem dX10_holds_7 : decode cX10_holds 7 = .ok (.aload 4, 2) := by decide +kernel
theorem dX10_holds_9 : decode cX10_holds 9 = .ok (.ifnull 17, 3) := by decide +kernel
theorem dX10_holds_12 : decode cX10_holds 12 = .ok (.iload_n 2, 1) := by decide +kernel
theorem dX10_holds_13 : decode cX10_holds 13 = .ok (.invokestatic 259, 3) := by decide +kernel
theorem dX10_holds_16 : decode cX10_holds 16 = .ok (.ifCond .eq 10, 3) := by decide +kernel
theorem dX10_holds_19 : decode cX10_holds 19 = .ok (.iload_n 3, 1) := by decide +kernel
theorem dX10_holds_20 : decode cX10_holds 20 = .ok (.invokestatic 137, 3) := by decide +kernel
theorem dX10_holds_23 : decode cX10_holds 23 = .ok (.ifCond .ne 8, 3) := by decide +kernel
theorem dX10_holds_26 : decode cX10_holds 26 = .ok (.ldc 93, 2) := by decide +kernel
theorem dX10_holds_28 : decode cX10_holds 28 = .ok (.goto 11, 3) := by decide +kernel
theorem dX10_holds_31 : decode cX10_holds 31 = .ok (.aload_n 0, 1) := by decide +kernel
theorem dX10_holds_32 : decode cX10_holds 32 = .ok (.aload 4, 2) := by decide +kernel
theorem dX10_holds_34 : decode cX10_holds 34 = .ok (.iload_n 2, 1) := by decide +kernel
theorem dX10_holds_35 : decode cX10_holds 35 = .ok (.iload_n 3, 1) := by decide +kernel
theorem dX10_holds_36 : decode cX10_holds 36 = .ok (.invokevirtual 268, 3) := by decide +kernel
theorem dX10_holds_39 : decode cX10_holds 39 = .ok (.ireturn, 1) := by decide +kernel
theorem dX10_feed_0 : decode cX10_feed 0 = .ok (.iload_n 3, 1) := by decide +kernel
theorem dX10_feed_1 : decode cX10_feed 1 = .ok (.iconst 1, 1) := by decide +kernel
theorem dX10_feed_2 : decode cX10_feed 2 = .ok (.bipush 8, 2) := by decide +kernel
theorem dX10_feed_4 : decode cX10_feed 4 = .ok (.invokestatic 89, 3) := by decide +kernel
theorem dX10_feed_7 : decode cX10_feed 7 = .ok (.ifCond .ne 6, 3) := by decide +kernel
theorem dX10_feed_10 : decode cX10_feed 10 = .ok (.ldc 93, 2) := by decide +kernel
theorem dX10_feed_12 : decode cX10_feed 12 = .ok (.ireturn, 1) := by decide +kernel
theorem dX10_feed_13 : decode cX10_feed 13 = .ok (.aload_n 0, 1) := by decide +kernel
theorem dX10_feed_14 : decode cX10_feed 14 = .ok (.getfield 50, 3) := by decide +kernel
theorem dX10_feed_17 : decode cX10_feed 17 = .ok (.lload_n 1, 1) := by decide +kernel
theorem dX10_feed_18 : decode cX10_feed 18 = .ok (.iload_n 3, 1) := by decide +kernel
theorem dX10_feed_19 : decode cX10_feed 19 = .ok (.invokevirtual 272, 3) := by decide +kernel
theorem dX10_feed_22 : decode cX10_feed 22 = .ok (.ifCond .eq 13, 3) := by decide +kernel
theorem dX10_feed_25 : decode cX10_feed 25 = .ok (.aload_n 0, 1) := by decide +kernel
theorem dX10_feed_26 : decode cX10_feed 26 = .ok (.getfield 50, 3) := by decide +kernel
theorem dX10_feed_29 : decode cX10_feed 29 = .ok (.getfield 276, 3) := by decide +kernel
theorem dX10_feed_32 : decode cX10_feed 32 = .ok (.goto 5, 3) := by decide +kernel
theorem dX10_feed_35 : decode cX10_feed 35 = .ok (.ldc 147, 2) := by decide +kernel
theorem dX10_feed_37 : decode cX10_feed 37 = .ok (.ireturn, 1) := by decide +kernel
theorem dX10_doors_0 : decode cX10_doors 0 = .ok (.aload_n 0, 1) := by decide +kernel
theorem dX10_doors_1 : decode cX10_doors 1 = .ok (.getfield 50, 3) := by decide +kernel
theorem dX10_doors_4 : decode cX10_doors 4 = .ok (.aload_n 0, 1) := by decide +kernel
theorem dX10_doors_5 : decode cX10_doors 5 = .ok (.getfield 43, 3) := by decide +kernel
theorem dX10_doors_8 : decode cX10_doors 8 = .ok (.invokevirtual 279, 3) := by decide +kernel
theorem dX10_doors_11 : decode cX10_doors 11 = .ok (.ireturn, 1) := by decide +kernel
theorem dX10_fault_0 : decode cX10_fault 0 = .ok (.aload_n 0, 1) := by decide +kernel
theorem dX10_fault_1 : decode cX10_fault 1 = .ok (.getfield 50, 3) := by decide +kernel
theorem dX10_fault_4 : decode cX10_fault 4 = .ok (.getfield 283, 3) := by decide +kernel
theorem dX10_fault_7 : decode cX10_fault 7 = .ok (.ireturn, 1) := by decide +kernel
theorem dX10_door_0 : decode cX10_door 0 = .ok (.iload_n 1, 1) := by decide +kernel
theorem dX10_door_1 : decode cX10_door 1 = .ok (.invokestatic 259, 3) := by decide +kernel
theorem dX10_door_4 : decode cX10_door 4 = .ok (.ifCond .eq 12, 3) := by decide +kernel
theorem dX10_door_7 : decode cX10_door 7 = .ok (.iload_n 2, 1) := by decide +kernel
theorem dX10_door_8 : decode cX10_door 8 = .ok (.iconst 0, 1) := by decide +kernel
theorem dX10_door_9 : decode cX10_door 9 = .ok (.iconst 2, 1) := by decide +kernel
theorem dX10_door_10 : decode cX10_door 10 = .ok (.invokestatic 89, 3) := by decide +kernel
theorem dX10_door_13 : decode cX10_door 13 = .ok (.ifCond .ne 6, 3) := by decide +kernel
theorem dX10_door_16 : decode cX10_door 16 = .ok (.ldc 93, 2) := by decide +kernel
theorem dX10_door_18 : decode cX10_door 18 = .ok (.ireturn, 1) := by decide +kernel
theorem dX10_door_19 : decode cX10_door 19 = .ok (.iload_n 2, 1) := by decide +kernel
theorem dX10_door_20 : decode cX10_door 20 = .ok (.ifCond .ne 13, 3) := by decide +kernel
theorem dX10_door_23 : decode cX10_door 23 = .ok (.aload_n 0, 1) := by decide +kernel
theorem dX10_door_24 : decode cX10_door 24 = .ok (.getfield 43, 3) := by decide +kernel
theorem dX10_door_27 : decode cX10_door 27 = .ok (.getfield 286, 3) := by decide +kernel
theorem dX10_door_30 : decode cX10_door 30 = .ok (.iload_n 1, 1) := by decide +kernel
theorem dX10_door_31 : decode cX10_door 31 = .ok (.iaload, 1) := by decide +kernel
theorem dX10_door_32 : decode cX10_door 32 = .ok (.ireturn, 1) := by decide +kernel
theorem dX10_door_33 : decode cX10_door 33 = .ok (.iload_n 2, 1) := by decide +kernel
theorem dX10_door_34 : decode cX10_door 34 = .ok (.iconst 1, 1) := by decide +kernel
theorem dX10_door_35 : decode cX10_door 35 = .ok (.if_icmp .ne 15, 3) := by decide +kernel
theorem dX10_door_38 : decode cX10_door 38 = .ok (.aload_n 0, 1) := by decide +kernel
theorem dX10_door_39 : decode cX10_door 39 = .ok (.getfield 43, 3) := by decide +kernel
theorem dX10_door_42 : decode cX10_door 42 = .ok (.getfield 289, 3) := by decide +kernel
theorem dX10_door_45 : decode cX10_door 45 = .ok (.iload_n 1, 1) := by decide +kernel
theorem dX10_door_46 : decode cX10_door 46 = .ok (.iaload, 1) := by decide +kernel
theorem dX10_door_47 : decode cX10_door 47 = .ok (.goto 19, 3) := by decide +kernel
theorem dX10_door_50 : decode cX10_door 50 = .ok (.aload_n 0, 1) := by decide +kernel
theorem dX10_door_51 : decode cX10_door 51 = .ok (.getfield 43, 3) := by decide +kernel
theorem dX10_door_54 : decode cX10_door 54 = .ok (.iload_n 1, 1) := by decide +kernel
theorem dX10_door_55 : decode cX10_door 55 = .ok (.invokevirtual 292, 3) := by decide +kernel
theorem dX10_door_58 : decode cX10_door 58 = .ok (.ifCond .eq 7, 3) := by decide +kernel
theorem dX10_door_61 : decode cX10_door 61 = .ok (.iconst 1, 1) := by decide +kernel
theorem dX10_door_62 : decode cX10_door 62 = .ok (.goto 4, 3) := by decide +kernel
theorem dX10_door_65 : decode cX10_door 65 = .ok (.iconst 0, 1) := by decide +kernel
theorem dX10_door_66 : decode cX10_door 66 = .ok (.ireturn, 1) := by decide +kernel
theorem dX10_least_0 : decode cX10_least 0 = .ok (.iload_n 1, 1) := by decide +kernel
theorem dX10_least_1 : decode cX10_least 1 = .ok (.invokestatic 233, 3) := by decide +kernel
theorem dX10_least_4 : decode cX10_least 4 = .ok (.ifCond .eq 27, 3) := by decide +kernel
theorem dX10_least_7 : decode cX10_least 7 = .ok (.iload_n 2, 1) := by decide +kernel
theorem dX10_least_8 : decode cX10_least 8 = .ok (.invokestatic 259, 3) := by decide +kernel
theorem dX10_least_11 : decode cX10_least 11 = .ok (.ifCond .eq 20, 3) := by decide +kernel
theorem dX10_least_14 : decode cX10_least 14 = .ok (.iload_n 3, 1) := by decide +kernel
theorem dX10_least_15 : decode cX10_least 15 = .ok (.invokestatic 137, 3) := by decide +kernel
theorem dX10_least_18 : decode cX10_least 18 = .ok (.ifCond .eq 13, 3) := by decide +kernel
theorem dX10_least_21 : decode cX10_least 21 = .ok (.iload 4, 2) := by decide +kernel
theorem dX10_least_23 : decode cX10_least 23 = .ok (.iconst 0, 1) := by decide +kernel
theorem dX10_least_24 : decode cX10_least 24 = .ok (.iconst 1, 1) := by decide +kernel
theorem dX10_least_25 : decode cX10_least 25 = .ok (.invokestatic 89, 3) := by decide +kernel
theorem dX10_least_28 : decode cX10_least 28 = .ok (.ifCond .ne 6, 3) := by decide +kernel
theorem dX10_least_31 : decode cX10_least 31 = .ok (.ldc 93, 2) := by decide +kernel
theorem dX10_least_33 : decode cX10_least 33 = .ok (.ireturn, 1) := by decide +kernel
theorem dX10_least_34 : decode cX10_least 34 = .ok (.aload_n 0, 1) := by decide +kernel
theorem dX10_least_35 : decode cX10_least 35 = .ok (.getfield 43, 3) := by decide +kernel
theorem dX10_least_38 : decode cX10_least 38 = .ok (.iload_n 2, 1) := by decide +kernel
theorem dX10_least_39 : decode cX10_least 39 = .ok (.invokevirtual 292, 3) := by decide +kernel
theorem dX10_least_42 : decode cX10_least 42 = .ok (.ifCond .eq 8, 3) := by decide +kernel
theorem dX10_least_45 : decode cX10_least 45 = .ok (.ldc 213, 2) := by decide +kernel
theorem dX10_least_47 : decode cX10_least 47 = .ok (.goto 10, 3) := by decide +kernel
theorem dX10_least_50 : decode cX10_least 50 = .ok (.aload_n 0, 1) := by decide +kernel
theorem dX10_least_51 : decode cX10_least 51 = .ok (.iload_n 1, 1) := by decide +kernel
theorem dX10_least_52 : decode cX10_least 52 = .ok (.iload_n 2, 1) := by decide +kernel
theorem dX10_least_53 : decode cX10_least 53 = .ok (.iload_n 3, 1) := by decide +kernel
theorem dX10_least_54 : decode cX10_least 54 = .ok (.invokevirtual 295, 3) := by decide +kernel
theorem dX10_least_57 : decode cX10_least 57 = .ok (.istore 5, 2) := by decide +kernel
theorem dX10_least_59 : decode cX10_least 59 = .ok (.iload 5, 2) := by decide +kernel
theorem dX10_least_61 : decode cX10_least 61 = .ok (.ldc 213, 2) := by decide +kernel
theorem dX10_least_63 : decode cX10_least 63 = .ok (.if_icmp .ne 6, 3) := by decide +kernel
theorem dX10_least_66 : decode cX10_least 66 = .ok (.ldc 213, 2) := by decide +kernel
theorem dX10_least_68 : decode cX10_least 68 = .ok (.ireturn, 1) := by decide +kernel
theorem dX10_least_69 : decode cX10_least 69 = .ok (.iload 4, 2) := by decide +kernel
theorem dX10_least_71 : decode cX10_least 71 = .ok (.ifCond .ne 12, 3) := by decide +kernel
theorem dX10_least_74 : decode cX10_least 74 = .ok (.iload 5, 2) := by decide +kernel
theorem dX10_least_76 : decode cX10_least 76 = .ok (.sipush 4096, 3) := by decide +kernel
theorem dX10_least_79 : decode cX10_least 79 = .ok (.irem, 1) := by decide +kernel
theorem dX10_least_80 : decode cX10_least 80 = .ok (.goto 9, 3) := by decide +kernel
theorem dX10_least_83 : decode cX10_least 83 = .ok (.iload 5, 2) := by decide +kernel
theorem dX10_least_85 : decode cX10_least 85 = .ok (.sipush 4096, 3) := by decide +kernel
theorem dX10_least_88 : decode cX10_least 88 = .ok (.idiv, 1) := by decide +kernel
theorem dX10_least_89 : decode cX10_least 89 = .ok (.ireturn, 1) := by decide +kernel
theorem dX10_seen_0 : decode cX10_seen 0 = .ok (.iload_n 1, 1) := by decide +kernel
theorem dX10_seen_1 : decode cX10_seen 1 = .ok (.invokestatic 259, 3) := by decide +kernel
theorem dX10_seen_4 : decode cX10_seen 4 = .ok (.ifCond .eq 18, 3) := by decide +kernel
theorem dX10_seen_7 : decode cX10_seen 7 = .ok (.aload_n 0, 1) := by decide +kernel
theorem dX10_seen_8 : decode cX10_seen 8 = .ok (.iload_n 2, 1) := by decide +kernel
theorem dX10_seen_9 : decode cX10_seen 9 = .ok (.invokevirtual 170, 3) := by decide +kernel
theorem dX10_seen_12 : decode cX10_seen 12 = .ok (.ifnull 10, 3) := by decide +kernel
theorem dX10_seen_15 : decode cX10_seen 15 = .ok (.iload_n 3, 1) := by decide +kernel
theorem dX10_seen_16 : decode cX10_seen 16 = .ok (.invokestatic 206, 3) := by decide +kernel
theorem dX10_seen_19 : decode cX10_seen 19 = .ok (.ifCond .ne 6, 3) := by decide +kernel
theorem dX10_seen_22 : decode cX10_seen 22 = .ok (.ldc 93, 2) := by decide +kernel
theorem dX10_seen_24 : decode cX10_seen 24 = .ok (.ireturn, 1) := by decide +kernel
theorem dX10_seen_25 : decode cX10_seen 25 = .ok (.aload_n 0, 1) := by decide +kernel
theorem dX10_seen_26 : decode cX10_seen 26 = .ok (.getfield 64, 3) := by decide +kernel
theorem dX10_seen_29 : decode cX10_seen 29 = .ok (.iload_n 2, 1) := by decide +kernel
theorem dX10_seen_30 : decode cX10_seen 30 = .ok (.iload_n 3, 1) := by decide +kernel
theorem dX10_seen_31 : decode cX10_seen 31 = .ok (.invokevirtual 298, 3) := by decide +kernel
theorem dX10_seen_34 : decode cX10_seen 34 = .ok (.ifCond .eq 13, 3) := by decide +kernel
theorem dX10_seen_37 : decode cX10_seen 37 = .ok (.aload_n 0, 1) := by decide +kernel
theorem dX10_seen_38 : decode cX10_seen 38 = .ok (.getfield 64, 3) := by decide +kernel
theorem dX10_seen_41 : decode cX10_seen 41 = .ok (.getfield 302, 3) := by decide +kernel
theorem dX10_seen_44 : decode cX10_seen 44 = .ok (.goto 5, 3) := by decide +kernel
theorem dX10_seen_47 : decode cX10_seen 47 = .ok (.ldc 147, 2) := by decide +kernel
theorem dX10_seen_49 : decode cX10_seen 49 = .ok (.ireturn, 1) := by decide +kernel
theorem dX10_together_0 : decode cX10_together 0 = .ok (.iload_n 1, 1) := by decide +kernel
theorem dX10_together_1 : decode cX10_together 1 = .ok (.ifCond .le 15, 3) := by decide +kernel
theorem dX10_together_4 : decode cX10_together 4 = .ok (.iload_n 1, 1) := by decide +kernel
theorem dX10_together_5 : decode cX10_together 5 = .ok (.aload_n 0, 1) := by decide +kernel
theorem dX10_together_6 : decode cX10_together 6 = .ok (.getfield 64, 3) := by decide +kernel
theorem dX10_together_9 : decode cX10_together 9 = .ok (.getfield 302, 3) := by decide +kernel
theorem dX10_together_12 : decode cX10_together 12 = .ok (.iushr, 1) := by decide +kernel
theorem dX10_together_13 : decode cX10_together 13 = .ok (.ifCond .eq 6, 3) := by decide +kernel
theorem dX10_together_16 : decode cX10_together 16 = .ok (.ldc 93, 2) := by decide +kernel
theorem dX10_together_18 : decode cX10_together 18 = .ok (.ireturn, 1) := by decide +kernel
theorem dX10_together_19 : decode cX10_together 19 = .ok (.bipush 63, 2) := by decide +kernel
theorem dX10_together_21 : decode cX10_together 21 = .ok (.istore_n 2, 1) := by decide +kernel
theorem dX10_together_22 : decode cX10_together 22 = .ok (.iconst 0, 1) := by decide +kernel
theorem dX10_together_23 : decode cX10_together 23 = .ok (.istore_n 3, 1) := by decide +kernel
theorem dX10_together_24 : decode cX10_together 24 = .ok (.iload_n 3, 1) := by decide +kernel
theorem dX10_together_25 : decode cX10_together 25 = .ok (.aload_n 0, 1) := by decide +kernel
theorem dX10_together_26 : decode cX10_together 26 = .ok (.getfield 64, 3) := by decide +kernel
theorem dX10_together_29 : decode cX10_together 29 = .ok (.getfield 302, 3) := by decide +kernel
theorem dX10_together_32 : decode cX10_together 32 = .ok (.if_icmp .ge 42, 3) := by decide +kernel
theorem dX10_together_35 : decode cX10_together 35 = .ok (.iload_n 1, 1) := by decide +kernel
theorem dX10_together_36 : decode cX10_together 36 = .ok (.iload_n 3, 1) := by decide +kernel
theorem dX10_together_37 : decode cX10_together 37 = .ok (.invokestatic 305, 3) := by decide +kernel
theorem dX10_together_40 : decode cX10_together 40 = .ok (.ifCond .eq 28, 3) := by decide +kernel
theorem dX10_together_43 : decode cX10_together 43 = .ok (.iload_n 2, 1) := by decide +kernel
theorem dX10_together_44 : decode cX10_together 44 = .ok (.aload_n 0, 1) := by decide +kernel
theorem dX10_together_45 : decode cX10_together 45 = .ok (.aload_n 0, 1) := by decide +kernel
theorem dX10_together_46 : decode cX10_together 46 = .ok (.getfield 64, 3) := by decide +kernel
theorem dX10_together_49 : decode cX10_together 49 = .ok (.getfield 308, 3) := by decide +kernel
theorem dX10_together_52 : decode cX10_together 52 = .ok (.iload_n 3, 1) := by decide +kernel
theorem dX10_together_53 : decode cX10_together 53 = .ok (.iaload, 1) := by decide +kernel
theorem dX10_together_54 : decode cX10_together 54 = .ok (.aload_n 0, 1) := by decide +kernel
theorem dX10_together_55 : decode cX10_together 55 = .ok (.getfield 64, 3) := by decide +kernel
theorem dX10_together_58 : decode cX10_together 58 = .ok (.getfield 310, 3) := by decide +kernel
theorem dX10_together_61 : decode cX10_together 61 = .ok (.iload_n 3, 1) := by decide +kernel
theorem dX10_together_62 : decode cX10_together 62 = .ok (.iaload, 1) := by decide +kernel
theorem dX10_together_63 : decode cX10_together 63 = .ok (.invokevirtual 313, 3) := by decide +kernel
theorem dX10_together_66 : decode cX10_together 66 = .ok (.iand, 1) := by decide +kernel
theorem dX10_together_67 : decode cX10_together 67 = .ok (.istore_n 2, 1) := by decide +kernel
theorem dX10_together_68 : decode cX10_together 68 = .ok (.iinc 3 1, 3) := by decide +kernel
theorem dX10_together_71 : decode cX10_together 71 = .ok (.goto (-47), 3) := by decide +kernel
theorem dX10_together_74 : decode cX10_together 74 = .ok (.iload_n 2, 1) := by decide +kernel
theorem dX10_together_75 : decode cX10_together 75 = .ok (.ireturn, 1) := by decide +kernel
theorem dX10_queue_0 : decode cX10_queue 0 = .ok (.iload_n 1, 1) := by decide +kernel
theorem dX10_queue_1 : decode cX10_queue 1 = .ok (.invokestatic 85, 3) := by decide +kernel
theorem dX10_queue_4 : decode cX10_queue 4 = .ok (.ifCond .eq 25, 3) := by decide +kernel
theorem dX10_queue_7 : decode cX10_queue 7 = .ok (.iload_n 3, 1) := by decide +kernel
theorem dX10_queue_8 : decode cX10_queue 8 = .ok (.iconst 1, 1) := by decide +kernel
theorem dX10_queue_9 : decode cX10_queue 9 = .ok (.bipush 7, 2) := by decide +kernel
theorem dX10_queue_11 : decode cX10_queue 11 = .ok (.invokestatic 89, 3) := by decide +kernel
theorem dX10_queue_14 : decode cX10_queue 14 = .ok (.ifCond .eq 15, 3) := by decide +kernel
theorem dX10_queue_17 : decode cX10_queue 17 = .ok (.iload 4, 2) := by decide +kernel
theorem dX10_queue_19 : decode cX10_queue 19 = .ok (.iconst (-1), 1) := by decide +kernel
theorem dX10_queue_20 : decode cX10_queue 20 = .ok (.iload_n 3, 1) := by decide +kernel
theorem dX10_queue_21 : decode cX10_queue 21 = .ok (.iconst 1, 1) := by decide +kernel
theorem dX10_queue_22 : decode cX10_queue 22 = .ok (.isub, 1) := by decide +kernel
theorem dX10_queue_23 : decode cX10_queue 23 = .ok (.invokestatic 89, 3) := by decide +kernel
theorem dX10_queue_26 : decode cX10_queue 26 = .ok (.ifCond .ne 6, 3) := by decide +kernel
theorem dX10_queue_29 : decode cX10_queue 29 = .ok (.ldc 93, 2) := by decide +kernel
theorem dX10_queue_31 : decode cX10_queue 31 = .ok (.ireturn, 1) := by decide +kernel
theorem dX10_queue_32 : decode cX10_queue 32 = .ok (.aload_n 0, 1) := by decide +kernel
theorem dX10_queue_33 : decode cX10_queue 33 = .ok (.getfield 12, 3) := by decide +kernel
theorem dX10_queue_36 : decode cX10_queue 36 = .ok (.iload_n 1, 1) := by decide +kernel
theorem dX10_queue_37 : decode cX10_queue 37 = .ok (.iload_n 2, 1) := by decide +kernel
theorem dX10_queue_38 : decode cX10_queue 38 = .ok (.iconst 2, 1) := by decide +kernel
theorem dX10_queue_39 : decode cX10_queue 39 = .ok (.iload_n 3, 1) := by decide +kernel
theorem dX10_queue_40 : decode cX10_queue 40 = .ok (.imul, 1) := by decide +kernel
theorem dX10_queue_41 : decode cX10_queue 41 = .ok (.invokevirtual 105, 3) := by decide +kernel
theorem dX10_queue_44 : decode cX10_queue 44 = .ok (.istore 5, 2) := by decide +kernel
theorem dX10_queue_46 : decode cX10_queue 46 = .ok (.iload 5, 2) := by decide +kernel
theorem dX10_queue_48 : decode cX10_queue 48 = .ok (.ifCond .eq 10, 3) := by decide +kernel
theorem dX10_queue_51 : decode cX10_queue 51 = .ok (.aload_n 0, 1) := by decide +kernel
theorem dX10_queue_52 : decode cX10_queue 52 = .ok (.iload 5, 2) := by decide +kernel
theorem dX10_queue_54 : decode cX10_queue 54 = .ok (.invokevirtual 94, 3) := by decide +kernel
theorem dX10_queue_57 : decode cX10_queue 57 = .ok (.ireturn, 1) := by decide +kernel
theorem dX10_queue_58 : decode cX10_queue 58 = .ok (.aload_n 0, 1) := by decide +kernel
theorem dX10_queue_59 : decode cX10_queue 59 = .ok (.getfield 71, 3) := by decide +kernel
theorem dX10_queue_62 : decode cX10_queue 62 = .ok (.aload_n 0, 1) := by decide +kernel
theorem dX10_queue_63 : decode cX10_queue 63 = .ok (.getfield 12, 3) := by decide +kernel
theorem dX10_queue_66 : decode cX10_queue 66 = .ok (.getfield 121, 3) := by decide +kernel
theorem dX10_queue_69 : decode cX10_queue 69 = .ok (.iload_n 1, 1) := by decide +kernel
theorem dX10_queue_70 : decode cX10_queue 70 = .ok (.aaload, 1) := by decide +kernel
theorem dX10_queue_71 : decode cX10_queue 71 = .ok (.iload_n 2, 1) := by decide +kernel
theorem dX10_queue_72 : decode cX10_queue 72 = .ok (.iload_n 3, 1) := by decide +kernel
theorem dX10_queue_73 : decode cX10_queue 73 = .ok (.invokevirtual 316, 3) := by decide +kernel
theorem dX10_queue_76 : decode cX10_queue 76 = .ok (.ifCond .ne 6, 3) := by decide +kernel
theorem dX10_queue_79 : decode cX10_queue 79 = .ok (.ldc 93, 2) := by decide +kernel
theorem dX10_queue_81 : decode cX10_queue 81 = .ok (.ireturn, 1) := by decide +kernel
theorem dX10_queue_82 : decode cX10_queue 82 = .ok (.aload_n 0, 1) := by decide +kernel
theorem dX10_queue_83 : decode cX10_queue 83 = .ok (.getfield 71, 3) := by decide +kernel
theorem dX10_queue_86 : decode cX10_queue 86 = .ok (.invokevirtual 317, 3) := by decide +kernel
theorem dX10_queue_89 : decode cX10_queue 89 = .ok (.aload_n 0, 1) := by decide +kernel
theorem dX10_queue_90 : decode cX10_queue 90 = .ok (.iload 4, 2) := by decide +kernel
theorem dX10_queue_92 : decode cX10_queue 92 = .ok (.iconst (-1), 1) := by decide +kernel
theorem dX10_queue_93 : decode cX10_queue 93 = .ok (.if_icmp .ne 13, 3) := by decide +kernel
theorem dX10_queue_96 : decode cX10_queue 96 = .ok (.aload_n 0, 1) := by decide +kernel
theorem dX10_queue_97 : decode cX10_queue 97 = .ok (.getfield 71, 3) := by decide +kernel
theorem dX10_queue_100 : decode cX10_queue 100 = .ok (.getfield 320, 3) := by decide +kernel
theorem dX10_queue_103 : decode cX10_queue 103 = .ok (.goto 13, 3) := by decide +kernel
theorem dX10_queue_106 : decode cX10_queue 106 = .ok (.aload_n 0, 1) := by decide +kernel
theorem dX10_queue_107 : decode cX10_queue 107 = .ok (.getfield 71, 3) := by decide +kernel
theorem dX10_queue_110 : decode cX10_queue 110 = .ok (.getfield 323, 3) := by decide +kernel
theorem dX10_queue_113 : decode cX10_queue 113 = .ok (.iload 4, 2) := by decide +kernel
theorem dX10_queue_115 : decode cX10_queue 115 = .ok (.iaload, 1) := by decide +kernel
theorem dX10_queue_116 : decode cX10_queue 116 = .ok (.invokevirtual 102, 3) := by decide +kernel
theorem dX10_queue_119 : decode cX10_queue 119 = .ok (.ireturn, 1) := by decide +kernel
theorem dX10_day_0 : decode cX10_day 0 = .ok (.iload_n 1, 1) := by decide +kernel
theorem dX10_day_1 : decode cX10_day 1 = .ok (.invokestatic 137, 3) := by decide +kernel
theorem dX10_day_4 : decode cX10_day 4 = .ok (.ifCond .ne 6, 3) := by decide +kernel
theorem dX10_day_7 : decode cX10_day 7 = .ok (.ldc 93, 2) := by decide +kernel
theorem dX10_day_9 : decode cX10_day 9 = .ok (.ireturn, 1) := by decide +kernel
theorem dX10_day_10 : decode cX10_day 10 = .ok (.aload_n 0, 1) := by decide +kernel
theorem dX10_day_11 : decode cX10_day 11 = .ok (.getfield 326, 3) := by decide +kernel
theorem dX10_day_14 : decode cX10_day 14 = .ok (.istore_n 2, 1) := by decide +kernel
theorem dX10_day_15 : decode cX10_day 15 = .ok (.aload_n 0, 1) := by decide +kernel
theorem dX10_day_16 : decode cX10_day 16 = .ok (.iload_n 1, 1) := by decide +kernel
theorem dX10_day_17 : decode cX10_day 17 = .ok (.putfield 326, 3) := by decide +kernel
theorem dX10_day_20 : decode cX10_day 20 = .ok (.iload_n 2, 1) := by decide +kernel
theorem dX10_day_21 : decode cX10_day 21 = .ok (.ireturn, 1) := by decide +kernel
theorem dX10_kind_0 : decode cX10_kind 0 = .ok (.aload_n 0, 1) := by decide +kernel
theorem dX10_kind_1 : decode cX10_kind 1 = .ok (.iload_n 1, 1) := by decide +kernel
theorem dX10_kind_2 : decode cX10_kind 2 = .ok (.invokevirtual 170, 3) := by decide +kernel
theorem dX10_kind_5 : decode cX10_kind 5 = .ok (.astore_n 2, 1) := by decide +kernel
theorem dX10_kind_6 : decode cX10_kind 6 = .ok (.aload_n 2, 1) := by decide +kernel
theorem dX10_kind_7 : decode cX10_kind 7 = .ok (.ifnonnull 8, 3) := by decide +kernel
theorem dX10_kind_10 : decode cX10_kind 10 = .ok (.ldc 93, 2) := by decide +kernel
theorem dX10_kind_12 : decode cX10_kind 12 = .ok (.goto 11, 3) := by decide +kernel
theorem dX10_kind_15 : decode cX10_kind 15 = .ok (.aload_n 2, 1) := by decide +kernel
theorem dX10_kind_16 : decode cX10_kind 16 = .ok (.aload_n 0, 1) := by decide +kernel
theorem dX10_kind_17 : decode cX10_kind 17 = .ok (.getfield 326, 3) := by decide +kernel
theorem dX10_kind_20 : decode cX10_kind 20 = .ok (.invokevirtual 329, 3) := by decide +kernel
theorem dX10_kind_23 : decode cX10_kind 23 = .ok (.ireturn, 1) := by decide +kernel
theorem dX10_as_0 : decode cX10_as 0 = .ok (.aload_n 0, 1) := by decide +kernel
theorem dX10_as_1 : decode cX10_as 1 = .ok (.iload_n 1, 1) := by decide +kernel
theorem dX10_as_2 : decode cX10_as 2 = .ok (.invokevirtual 170, 3) := by decide +kernel
theorem dX10_as_5 : decode cX10_as 5 = .ok (.astore_n 3, 1) := by decide +kernel
theorem dX10_as_6 : decode cX10_as 6 = .ok (.aload_n 3, 1) := by decide +kernel
theorem dX10_as_7 : decode cX10_as 7 = .ok (.ifnull 12, 3) := by decide +kernel
theorem dX10_as_10 : decode cX10_as 10 = .ok (.iload_n 2, 1) := by decide +kernel
theorem dX10_as_11 : decode cX10_as 11 = .ok (.iconst 0, 1) := by decide +kernel
theorem dX10_as_12 : decode cX10_as 12 = .ok (.iconst 5, 1) := by decide +kernel
theorem dX10_as_13 : decode cX10_as 13 = .ok (.invokestatic 89, 3) := by decide +kernel
theorem dX10_as_16 : decode cX10_as 16 = .ok (.ifCond .ne 6, 3) := by decide +kernel
theorem dX10_as_19 : decode cX10_as 19 = .ok (.ldc 93, 2) := by decide +kernel
theorem dX10_as_21 : decode cX10_as 21 = .ok (.ireturn, 1) := by decide +kernel
theorem dX10_as_22 : decode cX10_as 22 = .ok (.aload_n 3, 1) := by decide +kernel
theorem dX10_as_23 : decode cX10_as 23 = .ok (.aload_n 0, 1) := by decide +kernel
theorem dX10_as_24 : decode cX10_as 24 = .ok (.getfield 326, 3) := by decide +kernel
theorem dX10_as_27 : decode cX10_as 27 = .ok (.invokevirtual 329, 3) := by decide +kernel
theorem dX10_as_30 : decode cX10_as 30 = .ok (.istore 4, 2) := by decide +kernel
theorem dX10_as_32 : decode cX10_as 32 = .ok (.iload_n 2, 1) := by decide +kernel
theorem dX10_as_33 : decode cX10_as 33 = .ok (.ifCond .eq 20, 3) := by decide +kernel
theorem dX10_as_36 : decode cX10_as 36 = .ok (.iload_n 2, 1) := by decide +kernel
theorem dX10_as_37 : decode cX10_as 37 = .ok (.iload 4, 2) := by decide +kernel
theorem dX10_as_39 : decode cX10_as 39 = .ok (.if_icmp .eq 14, 3) := by decide +kernel
theorem dX10_as_42 : decode cX10_as 42 = .ok (.iload_n 2, 1) := by decide +kernel
theorem dX10_as_43 : decode cX10_as 43 = .ok (.iconst 1, 1) := by decide +kernel
theorem dX10_as_44 : decode cX10_as 44 = .ok (.if_icmp .ne 13, 3) := by decide +kernel
theorem dX10_as_47 : decode cX10_as 47 = .ok (.iload 4, 2) := by decide +kernel
theorem dX10_as_49 : decode cX10_as 49 = .ok (.iconst 2, 1) := by decide +kernel
theorem dX10_as_50 : decode cX10_as 50 = .ok (.if_icmp .ne 7, 3) := by decide +kernel
theorem dX10_as_53 : decode cX10_as 53 = .ok (.iconst 1, 1) := by decide +kernel
theorem dX10_as_54 : decode cX10_as 54 = .ok (.goto 4, 3) := by decide +kernel
theorem dX10_as_57 : decode cX10_as 57 = .ok (.iconst 0, 1) := by decide +kernel
theorem dX10_as_58 : decode cX10_as 58 = .ok (.istore 5, 2) := by decide +kernel
theorem dX10_as_60 : decode cX10_as 60 = .ok (.iload 5, 2) := by decide +kernel
theorem dX10_as_62 : decode cX10_as 62 = .ok (.ifCond .eq 14, 3) := by decide +kernel
theorem dX10_as_65 : decode cX10_as 65 = .ok (.aload_n 0, 1) := by decide +kernel
theorem dX10_as_66 : decode cX10_as 66 = .ok (.aload_n 3, 1) := by decide +kernel
theorem dX10_as_67 : decode cX10_as 67 = .ok (.getfield 194, 3) := by decide +kernel
theorem dX10_as_70 : decode cX10_as 70 = .ok (.invokevirtual 102, 3) := by decide +kernel
theorem dX10_as_73 : decode cX10_as 73 = .ok (.goto 8, 3) := by decide +kernel
theorem dX10_as_76 : decode cX10_as 76 = .ok (.aload_n 0, 1) := by decide +kernel
theorem dX10_as_77 : decode cX10_as 77 = .ok (.iconst 3, 1) := by decide +kernel
theorem dX10_as_78 : decode cX10_as 78 = .ok (.invokevirtual 94, 3) := by decide +kernel
theorem dX10_as_81 : decode cX10_as 81 = .ok (.ireturn, 1) := by decide +kernel
theorem dX10_ask_0 : decode cX10_ask 0 = .ok (.aload_n 0, 1) := by decide +kernel
theorem dX10_ask_1 : decode cX10_ask 1 = .ok (.iload_n 1, 1) := by decide +kernel
theorem dX10_ask_2 : decode cX10_ask 2 = .ok (.invokevirtual 170, 3) := by decide +kernel
theorem dX10_ask_5 : decode cX10_ask 5 = .ok (.astore_n 3, 1) := by decide +kernel
theorem dX10_ask_6 : decode cX10_ask 6 = .ok (.aload_n 3, 1) := by decide +kernel
theorem dX10_ask_7 : decode cX10_ask 7 = .ok (.ifnull 12, 3) := by decide +kernel
theorem dX10_ask_10 : decode cX10_ask 10 = .ok (.iload_n 2, 1) := by decide +kernel
theorem dX10_ask_11 : decode cX10_ask 11 = .ok (.iconst 0, 1) := by decide +kernel
theorem dX10_ask_12 : decode cX10_ask 12 = .ok (.iconst 1, 1) := by decide +kernel
theorem dX10_ask_13 : decode cX10_ask 13 = .ok (.invokestatic 89, 3) := by decide +kernel
theorem dX10_ask_16 : decode cX10_ask 16 = .ok (.ifCond .ne 6, 3) := by decide +kernel
theorem dX10_ask_19 : decode cX10_ask 19 = .ok (.ldc 93, 2) := by decide +kernel
theorem dX10_ask_21 : decode cX10_ask 21 = .ok (.ireturn, 1) := by decide +kernel
theorem dX10_ask_22 : decode cX10_ask 22 = .ok (.aload_n 0, 1) := by decide +kernel
theorem dX10_ask_23 : decode cX10_ask 23 = .ok (.getfield 78, 3) := by decide +kernel
theorem dX10_ask_26 : decode cX10_ask 26 = .ok (.iconst 0, 1) := by decide +kernel
theorem dX10_ask_27 : decode cX10_ask 27 = .ok (.putfield 332, 3) := by decide +kernel
theorem dX10_ask_30 : decode cX10_ask 30 = .ok (.aload_n 3, 1) := by decide +kernel
theorem dX10_ask_31 : decode cX10_ask 31 = .ok (.aload_n 0, 1) := by decide +kernel
theorem dX10_ask_32 : decode cX10_ask 32 = .ok (.getfield 326, 3) := by decide +kernel
theorem dX10_ask_35 : decode cX10_ask 35 = .ok (.invokevirtual 329, 3) := by decide +kernel
theorem dX10_ask_38 : decode cX10_ask 38 = .ok (.istore 4, 2) := by decide +kernel
theorem dX10_ask_40 : decode cX10_ask 40 = .ok (.iload_n 2, 1) := by decide +kernel
theorem dX10_ask_41 : decode cX10_ask 41 = .ok (.ifCond .ne 16, 3) := by decide +kernel
theorem dX10_ask_44 : decode cX10_ask 44 = .ok (.aload_n 0, 1) := by decide +kernel
theorem dX10_ask_45 : decode cX10_ask 45 = .ok (.getfield 78, 3) := by decide +kernel
theorem dX10_ask_48 : decode cX10_ask 48 = .ok (.aload_n 3, 1) := by decide +kernel
theorem dX10_ask_49 : decode cX10_ask 49 = .ok (.iload 4, 2) := by decide +kernel
theorem dX10_ask_51 : decode cX10_ask 51 = .ok (.invokevirtual 335, 3) := by decide +kernel
theorem dX10_ask_54 : decode cX10_ask 54 = .ok (.goto 13, 3) := by decide +kernel
theorem dX10_ask_57 : decode cX10_ask 57 = .ok (.aload_n 0, 1) := by decide +kernel
theorem dX10_ask_58 : decode cX10_ask 58 = .ok (.getfield 78, 3) := by decide +kernel
theorem dX10_ask_61 : decode cX10_ask 61 = .ok (.aload_n 3, 1) := by decide +kernel
theorem dX10_ask_62 : decode cX10_ask 62 = .ok (.iload 4, 2) := by decide +kernel
theorem dX10_ask_64 : decode cX10_ask 64 = .ok (.invokevirtual 339, 3) := by decide +kernel
theorem dX10_ask_67 : decode cX10_ask 67 = .ok (.ireturn, 1) := by decide +kernel
theorem dX10_trace_0 : decode cX10_trace 0 = .ok (.iload_n 1, 1) := by decide +kernel
theorem dX10_trace_1 : decode cX10_trace 1 = .ok (.ifCond .lt 26, 3) := by decide +kernel
theorem dX10_trace_4 : decode cX10_trace 4 = .ok (.iload_n 1, 1) := by decide +kernel
theorem dX10_trace_5 : decode cX10_trace 5 = .ok (.aload_n 0, 1) := by decide +kernel
theorem dX10_trace_6 : decode cX10_trace 6 = .ok (.getfield 78, 3) := by decide +kernel
theorem dX10_trace_9 : decode cX10_trace 9 = .ok (.getfield 332, 3) := by decide +kernel
theorem dX10_trace_12 : decode cX10_trace 12 = .ok (.if_icmp .ge 15, 3) := by decide +kernel
theorem dX10_trace_15 : decode cX10_trace 15 = .ok (.aload_n 0, 1) := by decide +kernel
theorem dX10_trace_16 : decode cX10_trace 16 = .ok (.getfield 78, 3) := by decide +kernel
theorem dX10_trace_19 : decode cX10_trace 19 = .ok (.getfield 342, 3) := by decide +kernel
theorem dX10_trace_22 : decode cX10_trace 22 = .ok (.iload_n 1, 1) := by decide +kernel
theorem dX10_trace_23 : decode cX10_trace 23 = .ok (.iaload, 1) := by decide +kernel
theorem dX10_trace_24 : decode cX10_trace 24 = .ok (.goto 5, 3) := by decide +kernel
theorem dX10_trace_27 : decode cX10_trace 27 = .ok (.ldc 213, 2) := by decide +kernel
theorem dX10_trace_29 : decode cX10_trace 29 = .ok (.ireturn, 1) := by decide +kernel
theorem dX10_count_0 : decode cX10_count 0 = .ok (.iload_n 1, 1) := by decide +kernel
theorem dX10_count_1 : decode cX10_count 1 = .ok (.tableswitch 81 0 5 #[39, 47, 52, 57, 65, 73], 39) := by decide +kernel
theorem dX10_count_40 : decode cX10_count 40 = .ok (.aload_n 0, 1) := by decide +kernel
theorem dX10_count_41 : decode cX10_count 41 = .ok (.getfield 12, 3) := by decide +kernel
theorem dX10_count_44 : decode cX10_count 44 = .ok (.invokevirtual 345, 3) := by decide +kernel
theorem dX10_count_47 : decode cX10_count 47 = .ok (.ireturn, 1) := by decide +kernel
theorem dX10_count_48 : decode cX10_count 48 = .ok (.aload_n 0, 1) := by decide +kernel
theorem dX10_count_49 : decode cX10_count 49 = .ok (.getfield 159, 3) := by decide +kernel
theorem dX10_count_52 : decode cX10_count 52 = .ok (.ireturn, 1) := by decide +kernel
theorem dX10_count_53 : decode cX10_count 53 = .ok (.aload_n 0, 1) := by decide +kernel
theorem dX10_count_54 : decode cX10_count 54 = .ok (.invokevirtual 348, 3) := by decide +kernel
theorem dX10_count_57 : decode cX10_count 57 = .ok (.ireturn, 1) := by decide +kernel
theorem dX10_count_58 : decode cX10_count 58 = .ok (.aload_n 0, 1) := by decide +kernel
theorem dX10_count_59 : decode cX10_count 59 = .ok (.getfield 19, 3) := by decide +kernel
theorem dX10_count_62 : decode cX10_count 62 = .ok (.invokevirtual 351, 3) := by decide +kernel
theorem dX10_count_65 : decode cX10_count 65 = .ok (.ireturn, 1) := by decide +kernel
theorem dX10_count_66 : decode cX10_count 66 = .ok (.aload_n 0, 1) := by decide +kernel
theorem dX10_count_67 : decode cX10_count 67 = .ok (.getfield 64, 3) := by decide +kernel
theorem dX10_count_70 : decode cX10_count 70 = .ok (.getfield 302, 3) := by decide +kernel
theorem dX10_count_73 : decode cX10_count 73 = .ok (.ireturn, 1) := by decide +kernel
theorem dX10_count_74 : decode cX10_count 74 = .ok (.aload_n 0, 1) := by decide +kernel
theorem dX10_count_75 : decode cX10_count 75 = .ok (.getfield 50, 3) := by decide +kernel
theorem dX10_count_78 : decode cX10_count 78 = .ok (.getfield 276, 3) := by decide +kernel
theorem dX10_count_81 : decode cX10_count 81 = .ok (.ireturn, 1) := by decide +kernel
theorem dX10_count_82 : decode cX10_count 82 = .ok (.ldc 93, 2) := by decide +kernel
theorem dX10_count_84 : decode cX10_count 84 = .ok (.ireturn, 1) := by decide +kernel
theorem dX10_status_0 : decode cX10_status 0 = .ok (.aload_n 0, 1) := by decide +kernel
theorem dX10_status_1 : decode cX10_status 1 = .ok (.getfield 354, 3) := by decide +kernel
theorem dX10_status_4 : decode cX10_status 4 = .ok (.ireturn, 1) := by decide +kernel
theorem dX10_finding_0 : decode cX10_finding 0 = .ok (.aload_n 0, 1) := by decide +kernel
theorem dX10_finding_1 : decode cX10_finding 1 = .ok (.iload_n 1, 1) := by decide +kernel
theorem dX10_finding_2 : decode cX10_finding 2 = .ok (.putfield 354, 3) := by decide +kernel
theorem dX10_finding_5 : decode cX10_finding 5 = .ok (.ldc_w 357, 3) := by decide +kernel
theorem dX10_finding_8 : decode cX10_finding 8 = .ok (.iload_n 1, 1) := by decide +kernel
theorem dX10_finding_9 : decode cX10_finding 9 = .ok (.isub, 1) := by decide +kernel
theorem dX10_finding_10 : decode cX10_finding 10 = .ok (.ireturn, 1) := by decide +kernel
theorem dX10_found_0 : decode cX10_found 0 = .ok (.aload_n 0, 1) := by decide +kernel
theorem dX10_found_1 : decode cX10_found 1 = .ok (.iconst 0, 1) := by decide +kernel
theorem dX10_found_2 : decode cX10_found 2 = .ok (.putfield 354, 3) := by decide +kernel
theorem dX10_found_5 : decode cX10_found 5 = .ok (.iload_n 1, 1) := by decide +kernel
theorem dX10_found_6 : decode cX10_found 6 = .ok (.ireturn, 1) := by decide +kernel
theorem dX10_within_0 : decode cX10_within 0 = .ok (.iload_n 0, 1) := by decide +kernel
theorem dX10_within_1 : decode cX10_within 1 = .ok (.iload_n 1, 1) := by decide +kernel
theorem dX10_within_2 : decode cX10_within 2 = .ok (.if_icmp .lt 12, 3) := by decide +kernel
theorem dX10_within_5 : decode cX10_within 5 = .ok (.iload_n 0, 1) := by decide +kernel
theorem dX10_within_6 : decode cX10_within 6 = .ok (.iload_n 2, 1) := by decide +kernel
theorem dX10_within_7 : decode cX10_within 7 = .ok (.if_icmp .gt 7, 3) := by decide +kernel
theorem dX10_within_10 : decode cX10_within 10 = .ok (.iconst 1, 1) := by decide +kernel
theorem dX10_within_11 : decode cX10_within 11 = .ok (.goto 4, 3) := by decide +kernel
theorem dX10_within_14 : decode cX10_within 14 = .ok (.iconst 0, 1) := by decide +kernel
theorem dX10_within_15 : decode cX10_within 15 = .ok (.ireturn, 1) := by decide +kernel
theorem dX10_hasBit_0 : decode cX10_hasBit 0 = .ok (.iload_n 0, 1) := by decide +kernel
theorem dX10_hasBit_1 : decode cX10_hasBit 1 = .ok (.iload_n 1, 1) := by decide +kernel
theorem dX10_hasBit_2 : decode cX10_hasBit 2 = .ok (.ishr, 1) := by decide +kernel
theorem dX10_hasBit_3 : decode cX10_hasBit 3 = .ok (.iconst 1, 1) := by decide +kernel
theorem dX10_hasBit_4 : decode cX10_hasBit 4 = .ok (.iand, 1) := by decide +kernel
theorem dX10_hasBit_5 : decode cX10_hasBit 5 = .ok (.iconst 1, 1) := by decide +kernel
theorem dX10_hasBit_6 : decode cX10_hasBit 6 = .ok (.if_icmp .ne 7, 3) := by decide +kernel
theorem dX10_hasBit_9 : decode cX10_hasBit 9 = .ok (.iconst 1, 1) := by decide +kernel
theorem dX10_hasBit_10 : decode cX10_hasBit 10 = .ok (.goto 4, 3) := by decide +kernel
theorem dX10_hasBit_13 : decode cX10_hasBit 13 = .ok (.iconst 0, 1) := by decide +kernel
theorem dX10_hasBit_14 : decode cX10_hasBit 14 = .ok (.ireturn, 1) := by decide +kernel
theorem dX10_isOffice_0 : decode cX10_isOffice 0 = .ok (.iload_n 0, 1) := by decide +kernel
theorem dX10_isOffice_1 : decode cX10_isOffice 1 = .ok (.iconst 0, 1) := by decide +kernel
theorem dX10_isOffice_2 : decode cX10_isOffice 2 = .ok (.iconst 3, 1) := by decide +kernel
theorem dX10_isOffice_3 : decode cX10_isOffice 3 = .ok (.invokestatic 89, 3) := by decide +kernel
theorem dX10_isOffice_6 : decode cX10_isOffice 6 = .ok (.ireturn, 1) := by decide +kernel
theorem dX10_isBearer_0 : decode cX10_isBearer 0 = .ok (.iload_n 0, 1) := by decide +kernel
theorem dX10_isBearer_1 : decode cX10_isBearer 1 = .ok (.iconst 0, 1) := by decide +kernel
theorem dX10_isBearer_2 : decode cX10_isBearer 2 = .ok (.iconst 5, 1) := by decide +kernel
theorem dX10_isBearer_3 : decode cX10_isBearer 3 = .ok (.invokestatic 89, 3) := by decide +kernel
theorem dX10_isBearer_6 : decode cX10_isBearer 6 = .ok (.ireturn, 1) := by decide +kernel
theorem dX10_isDoor_0 : decode cX10_isDoor 0 = .ok (.iload_n 0, 1) := by decide +kernel
theorem dX10_isDoor_1 : decode cX10_isDoor 1 = .ok (.iconst 0, 1) := by decide +kernel
theorem dX10_isDoor_2 : decode cX10_isDoor 2 = .ok (.iconst 3, 1) := by decide +kernel
theorem dX10_isDoor_3 : decode cX10_isDoor 3 = .ok (.invokestatic 89, 3) := by decide +kernel
theorem dX10_isDoor_6 : decode cX10_isDoor 6 = .ok (.ireturn, 1) := by decide +kernel
theorem dX10_isField_0 : decode cX10_isField 0 = .ok (.iload_n 0, 1) := by decide +kernel
theorem dX10_isField_1 : decode cX10_isField 1 = .ok (.iconst 0, 1) := by decide +kernel
theorem dX10_isField_2 : decode cX10_isField 2 = .ok (.iconst 3, 1) := by decide +kernel
theorem dX10_isField_3 : decode cX10_isField 3 = .ok (.invokestatic 89, 3) := by decide +kernel
theorem dX10_isField_6 : decode cX10_isField 6 = .ok (.ireturn, 1) := by decide +kernel
theorem dX10_isDay_0 : decode cX10_isDay 0 = .ok (.iload_n 0, 1) := by decide +kernel
theorem dX10_isDay_1 : decode cX10_isDay 1 = .ok (.iconst 0, 1) := by decide +kernel
theorem dX10_isDay_2 : decode cX10_isDay 2 = .ok (.sipush 999, 3) := by decide +kernel
theorem dX10_isDay_5 : decode cX10_isDay 5 = .ok (.invokestatic 89, 3) := by decide +kernel
theorem dX10_isDay_8 : decode cX10_isDay 8 = .ok (.ireturn, 1) := by decide +kernel
theorem dX10_isSet_0 : decode cX10_isSet 0 = .ok (.iload_n 0, 1) := by decide +kernel
theorem dX10_isSet_1 : decode cX10_isSet 1 = .ok (.iconst 0, 1) := by decide +kernel
theorem dX10_isSet_2 : decode cX10_isSet 2 = .ok (.bipush 15, 2) := by decide +kernel
theorem dX10_isSet_4 : decode cX10_isSet 4 = .ok (.invokestatic 89, 3) := by decide +kernel
theorem dX10_isSet_7 : decode cX10_isSet 7 = .ok (.ireturn, 1) := by decide +kernel
theorem dX10_paperAt_0 : decode cX10_paperAt 0 = .ok (.iload_n 1, 1) := by decide +kernel
theorem dX10_paperAt_1 : decode cX10_paperAt 1 = .ok (.ifCond .lt 26, 3) := by decide +kernel
theorem dX10_paperAt_4 : decode cX10_paperAt 4 = .ok (.iload_n 1, 1) := by decide +kernel
theorem dX10_paperAt_5 : decode cX10_paperAt 5 = .ok (.aload_n 0, 1) := by decide +kernel
theorem dX10_paperAt_6 : decode cX10_paperAt 6 = .ok (.getfield 159, 3) := by decide +kernel
theorem dX10_paperAt_9 : decode cX10_paperAt 9 = .ok (.if_icmp .ge 18, 3) := by decide +kernel
theorem dX10_paperAt_12 : decode cX10_paperAt 12 = .ok (.iload_n 1, 1) := by decide +kernel
theorem dX10_paperAt_13 : decode cX10_paperAt 13 = .ok (.bipush 12, 2) := by decide +kernel
theorem dX10_paperAt_15 : decode cX10_paperAt 15 = .ok (.if_icmp .ge 12, 3) := by decide +kernel
theorem dX10_paperAt_18 : decode cX10_paperAt 18 = .ok (.aload_n 0, 1) := by decide +kernel
theorem dX10_paperAt_19 : decode cX10_paperAt 19 = .ok (.getfield 25, 3) := by decide +kernel
theorem dX10_paperAt_22 : decode cX10_paperAt 22 = .ok (.iload_n 1, 1) := by decide +kernel
theorem dX10_paperAt_23 : decode cX10_paperAt 23 = .ok (.aaload, 1) := by decide +kernel
theorem dX10_paperAt_24 : decode cX10_paperAt 24 = .ok (.goto 4, 3) := by decide +kernel
theorem dX10_paperAt_27 : decode cX10_paperAt 27 = .ok (.aconst_null, 1) := by decide +kernel
theorem dX10_paperAt_28 : decode cX10_paperAt 28 = .ok (.areturn, 1) := by decide +kernel
theorem dX10_join_0 : decode cX10_join 0 = .ok (.iload_n 0, 1) := by decide +kernel
theorem dX10_join_1 : decode cX10_join 1 = .ok (.i2l, 1) := by decide +kernel
theorem dX10_join_2 : decode cX10_join 2 = .ok (.iload_n 0, 1) := by decide +kernel
theorem dX10_join_3 : decode cX10_join 3 = .ok (.i2l, 1) := by decide +kernel
theorem dX10_join_4 : decode cX10_join 4 = .ok (.lmul, 1) := by decide +kernel
theorem dX10_join_5 : decode cX10_join 5 = .ok (.ldc2_w 358, 3) := by decide +kernel
theorem dX10_join_8 : decode cX10_join 8 = .ok (.iload_n 1, 1) := by decide +kernel
theorem dX10_join_9 : decode cX10_join 9 = .ok (.i2l, 1) := by decide +kernel
theorem dX10_join_10 : decode cX10_join 10 = .ok (.lmul, 1) := by decide +kernel
theorem dX10_join_11 : decode cX10_join 11 = .ok (.ladd, 1) := by decide +kernel
theorem dX10_join_12 : decode cX10_join 12 = .ok (.ldc2_w 360, 3) := by decide +kernel
theorem dX10_join_15 : decode cX10_join 15 = .ok (.ladd, 1) := by decide +kernel
theorem dX10_join_16 : decode cX10_join 16 = .ok (.ldc2_w 362, 3) := by decide +kernel
theorem dX10_join_19 : decode cX10_join 19 = .ok (.lrem, 1) := by decide +kernel
theorem dX10_join_20 : decode cX10_join 20 = .ok (.l2i, 1) := by decide +kernel
theorem dX10_join_21 : decode cX10_join 21 = .ok (.ireturn, 1) := by decide +kernel
theorem dX10_steps_0 : decode cX10_steps 0 = .ok (.iload_n 0, 1) := by decide +kernel
theorem dX10_steps_1 : decode cX10_steps 1 = .ok (.i2l, 1) := by decide +kernel
theorem dX10_steps_2 : decode cX10_steps 2 = .ok (.lstore_n 2, 1) := by decide +kernel
theorem dX10_steps_3 : decode cX10_steps 3 = .ok (.iconst 0, 1) := by decide +kernel
theorem dX10_steps_4 : decode cX10_steps 4 = .ok (.istore 4, 2) := by decide +kernel
theorem dX10_steps_6 : decode cX10_steps 6 = .ok (.iload 4, 2) := by decide +kernel
theorem dX10_steps_8 : decode cX10_steps 8 = .ok (.iload_n 1, 1) := by decide +kernel
theorem dX10_steps_9 : decode cX10_steps 9 = .ok (.if_icmp .ge 21, 3) := by decide +kernel
theorem dX10_steps_12 : decode cX10_steps 12 = .ok (.lload_n 2, 1) := by decide +kernel
theorem dX10_steps_13 : decode cX10_steps 13 = .ok (.lload_n 2, 1) := by decide +kernel
theorem dX10_steps_14 : decode cX10_steps 14 = .ok (.lmul, 1) := by decide +kernel
theorem dX10_steps_15 : decode cX10_steps 15 = .ok (.ldc2_w 358, 3) := by decide +kernel
theorem dX10_steps_18 : decode cX10_steps 18 = .ok (.ladd, 1) := by decide +kernel
theorem dX10_steps_19 : decode cX10_steps 19 = .ok (.ldc2_w 362, 3) := by decide +kernel
theorem dX10_steps_22 : decode cX10_steps 22 = .ok (.lrem, 1) := by decide +kernel
theorem dX10_steps_23 : decode cX10_steps 23 = .ok (.lstore_n 2, 1) := by decide +kernel
theorem dX10_steps_24 : decode cX10_steps 24 = .ok (.iinc 4 1, 3) := by decide +kernel
theorem dX10_steps_27 : decode cX10_steps 27 = .ok (.goto (-21), 3) := by decide +kernel
theorem dX10_steps_30 : decode cX10_steps 30 = .ok (.lload_n 2, 1) := by decide +kernel
theorem dX10_steps_31 : decode cX10_steps 31 = .ok (.l2i, 1) := by decide +kernel
theorem dX10_steps_32 : decode cX10_steps 32 = .ok (.ireturn, 1) := by decide +kernel
theorem dX10_power_0 : decode cX10_power 0 = .ok (.iconst 1, 1) := by decide +kernel
theorem dX10_power_1 : decode cX10_power 1 = .ok (.istore_n 2, 1) := by decide +kernel
theorem dX10_power_2 : decode cX10_power 2 = .ok (.iconst 0, 1) := by decide +kernel
theorem dX10_power_3 : decode cX10_power 3 = .ok (.istore_n 3, 1) := by decide +kernel
theorem dX10_power_4 : decode cX10_power 4 = .ok (.iload_n 3, 1) := by decide +kernel
theorem dX10_power_5 : decode cX10_power 5 = .ok (.iload_n 1, 1) := by decide +kernel
theorem dX10_power_6 : decode cX10_power 6 = .ok (.if_icmp .ge 16, 3) := by decide +kernel
theorem dX10_power_9 : decode cX10_power 9 = .ok (.iload_n 2, 1) := by decide +kernel
theorem dX10_power_10 : decode cX10_power 10 = .ok (.iload_n 0, 1) := by decide +kernel
theorem dX10_power_11 : decode cX10_power 11 = .ok (.imul, 1) := by decide +kernel
theorem dX10_power_12 : decode cX10_power 12 = .ok (.bipush 47, 2) := by decide +kernel
theorem dX10_power_14 : decode cX10_power 14 = .ok (.irem, 1) := by decide +kernel
theorem dX10_power_15 : decode cX10_power 15 = .ok (.istore_n 2, 1) := by decide +kernel
theorem dX10_power_16 : decode cX10_power 16 = .ok (.iinc 3 1, 3) := by decide +kernel
theorem dX10_power_19 : decode cX10_power 19 = .ok (.goto (-15), 3) := by decide +kernel
theorem dX10_power_22 : decode cX10_power 22 = .ok (.iload_n 2, 1) := by decide +kernel
theorem dX10_power_23 : decode cX10_power 23 = .ok (.ireturn, 1) := by decide +kernel
theorem dX10_seal_0 : decode cX10_seal 0 = .ok (.iload_n 0, 1) := by decide +kernel
theorem dX10_seal_1 : decode cX10_seal 1 = .ok (.i2l, 1) := by decide +kernel
theorem dX10_seal_2 : decode cX10_seal 2 = .ok (.iload_n 1, 1) := by decide +kernel
theorem dX10_seal_3 : decode cX10_seal 3 = .ok (.i2l, 1) := by decide +kernel
theorem dX10_seal_4 : decode cX10_seal 4 = .ok (.lmul, 1) := by decide +kernel
theorem dX10_seal_5 : decode cX10_seal 5 = .ok (.lconst 1, 1) := by decide +kernel
theorem dX10_seal_6 : decode cX10_seal 6 = .ok (.ladd, 1) := by decide +kernel
theorem dX10_seal_7 : decode cX10_seal 7 = .ok (.ldc2_w 362, 3) := by decide +kernel
theorem dX10_seal_10 : decode cX10_seal 10 = .ok (.lrem, 1) := by decide +kernel
theorem dX10_seal_11 : decode cX10_seal 11 = .ok (.l2i, 1) := by decide +kernel
theorem dX10_seal_12 : decode cX10_seal 12 = .ok (.ireturn, 1) := by decide +kernel
theorem dX10_keyOf_0 : decode cX10_keyOf 0 = .ok (.aload_n 0, 1) := by decide +kernel
theorem dX10_keyOf_1 : decode cX10_keyOf 1 = .ok (.getfield 19, 3) := by decide +kernel
theorem dX10_keyOf_4 : decode cX10_keyOf 4 = .ok (.aload_n 1, 1) := by decide +kernel
theorem dX10_keyOf_5 : decode cX10_keyOf 5 = .ok (.getfield 194, 3) := by decide +kernel
theorem dX10_keyOf_8 : decode cX10_keyOf 8 = .ok (.aload_n 1, 1) := by decide +kernel
theorem dX10_keyOf_9 : decode cX10_keyOf 9 = .ok (.getfield 200, 3) := by decide +kernel
theorem dX10_keyOf_12 : decode cX10_keyOf 12 = .ok (.invokevirtual 148, 3) := by decide +kernel
theorem dX10_keyOf_15 : decode cX10_keyOf 15 = .ok (.ireturn, 1) := by decide +kernel
theorem dX10_signOf_0 : decode cX10_signOf 0 = .ok (.iconst 4, 1) := by decide +kernel
theorem dX10_signOf_1 : decode cX10_signOf 1 = .ok (.aload_n 0, 1) := by decide +kernel
theorem dX10_signOf_2 : decode cX10_signOf 2 = .ok (.getfield 29, 3) := by decide +kernel
theorem dX10_signOf_5 : decode cX10_signOf 5 = .ok (.iload_n 1, 1) := by decide +kernel
theorem dX10_signOf_6 : decode cX10_signOf 6 = .ok (.iaload, 1) := by decide +kernel
theorem dX10_signOf_7 : decode cX10_signOf 7 = .ok (.invokestatic 239, 3) := by decide +kernel
theorem dX10_signOf_10 : decode cX10_signOf 10 = .ok (.ireturn, 1) := by decide +kernel
theorem dX10_isTaken_0 : decode cX10_isTaken 0 = .ok (.iconst 4, 1) := by decide +kernel
theorem dX10_isTaken_1 : decode cX10_isTaken 1 = .ok (.iload 4, 2) := by decide +kernel
theorem dX10_isTaken_3 : decode cX10_isTaken 3 = .ok (.invokestatic 239, 3) := by decide +kernel
theorem dX10_isTaken_6 : decode cX10_isTaken 6 = .ok (.iload_n 2, 1) := by decide +kernel
theorem dX10_isTaken_7 : decode cX10_isTaken 7 = .ok (.aload_n 0, 1) := by decide +kernel
theorem dX10_isTaken_8 : decode cX10_isTaken 8 = .ok (.iload_n 1, 1) := by decide +kernel
theorem dX10_isTaken_9 : decode cX10_isTaken 9 = .ok (.invokevirtual 236, 3) := by decide +kernel
theorem dX10_isTaken_12 : decode cX10_isTaken 12 = .ok (.iload_n 3, 1) := by decide +kernel
theorem dX10_isTaken_13 : decode cX10_isTaken 13 = .ok (.invokestatic 239, 3) := by decide +kernel
theorem dX10_isTaken_16 : decode cX10_isTaken 16 = .ok (.imul, 1) := by decide +kernel
theorem dX10_isTaken_17 : decode cX10_isTaken 17 = .ok (.bipush 47, 2) := by decide +kernel
theorem dX10_isTaken_19 : decode cX10_isTaken 19 = .ok (.irem, 1) := by decide +kernel
theorem dX10_isTaken_20 : decode cX10_isTaken 20 = .ok (.if_icmp .ne 7, 3) := by decide +kernel
theorem dX10_isTaken_23 : decode cX10_isTaken 23 = .ok (.iconst 1, 1) := by decide +kernel
theorem dX10_isTaken_24 : decode cX10_isTaken 24 = .ok (.goto 4, 3) := by decide +kernel
theorem dX10_isTaken_27 : decode cX10_isTaken 27 = .ok (.iconst 0, 1) := by decide +kernel
theorem dX10_isTaken_28 : decode cX10_isTaken 28 = .ok (.ireturn, 1) := by decide +kernel
theorem dX10_whyNot_0 : decode cX10_whyNot 0 = .ok (.aload_n 0, 1) := by decide +kernel
theorem dX10_whyNot_1 : decode cX10_whyNot 1 = .ok (.getfield 43, 3) := by decide +kernel
theorem dX10_whyNot_4 : decode cX10_whyNot 4 = .ok (.getfield 262, 3) := by decide +kernel
theorem dX10_whyNot_7 : decode cX10_whyNot 7 = .ok (.iload_n 2, 1) := by decide +kernel
theorem dX10_whyNot_8 : decode cX10_whyNot 8 = .ok (.iaload, 1) := by decide +kernel
theorem dX10_whyNot_9 : decode cX10_whyNot 9 = .ok (.istore 4, 2) := by decide +kernel
theorem dX10_whyNot_11 : decode cX10_whyNot 11 = .ok (.iload 4, 2) := by decide +kernel
theorem dX10_whyNot_13 : decode cX10_whyNot 13 = .ok (.iload_n 3, 1) := by decide +kernel
theorem dX10_whyNot_14 : decode cX10_whyNot 14 = .ok (.invokestatic 364, 3) := by decide +kernel
theorem dX10_whyNot_17 : decode cX10_whyNot 17 = .ok (.istore 5, 2) := by decide +kernel
theorem dX10_whyNot_19 : decode cX10_whyNot 19 = .ok (.iload_n 3, 1) := by decide +kernel
theorem dX10_whyNot_20 : decode cX10_whyNot 20 = .ok (.aload_n 1, 1) := by decide +kernel
theorem dX10_whyNot_21 : decode cX10_whyNot 21 = .ok (.getfield 200, 3) := by decide +kernel
theorem dX10_whyNot_24 : decode cX10_whyNot 24 = .ok (.if_icmp .ge 5, 3) := by decide +kernel
theorem dX10_whyNot_27 : decode cX10_whyNot 27 = .ok (.iconst 1, 1) := by decide +kernel
theorem dX10_whyNot_28 : decode cX10_whyNot 28 = .ok (.ireturn, 1) := by decide +kernel
theorem dX10_whyNot_29 : decode cX10_whyNot 29 = .ok (.iload_n 3, 1) := by decide +kernel
theorem dX10_whyNot_30 : decode cX10_whyNot 30 = .ok (.aload_n 1, 1) := by decide +kernel
theorem dX10_whyNot_31 : decode cX10_whyNot 31 = .ok (.getfield 203, 3) := by decide +kernel
theorem dX10_whyNot_34 : decode cX10_whyNot 34 = .ok (.if_icmp .le 5, 3) := by decide +kernel
theorem dX10_whyNot_37 : decode cX10_whyNot 37 = .ok (.iconst 2, 1) := by decide +kernel
theorem dX10_whyNot_38 : decode cX10_whyNot 38 = .ok (.ireturn, 1) := by decide +kernel
theorem dX10_whyNot_39 : decode cX10_whyNot 39 = .ok (.aload_n 1, 1) := by decide +kernel
theorem dX10_whyNot_40 : decode cX10_whyNot 40 = .ok (.getfield 265, 3) := by decide +kernel
theorem dX10_whyNot_43 : decode cX10_whyNot 43 = .ok (.iload 5, 2) := by decide +kernel
theorem dX10_whyNot_45 : decode cX10_whyNot 45 = .ok (.if_icmp .gt 5, 3) := by decide +kernel
theorem dX10_whyNot_48 : decode cX10_whyNot 48 = .ok (.iconst 3, 1) := by decide +kernel
theorem dX10_whyNot_49 : decode cX10_whyNot 49 = .ok (.ireturn, 1) := by decide +kernel
theorem dX10_whyNot_50 : decode cX10_whyNot 50 = .ok (.aload_n 0, 1) := by decide +kernel
theorem dX10_whyNot_51 : decode cX10_whyNot 51 = .ok (.getfield 19, 3) := by decide +kernel
theorem dX10_whyNot_54 : decode cX10_whyNot 54 = .ok (.getfield 155, 3) := by decide +kernel
theorem dX10_whyNot_57 : decode cX10_whyNot 57 = .ok (.aload_n 1, 1) := by decide +kernel
theorem dX10_whyNot_58 : decode cX10_whyNot 58 = .ok (.getfield 194, 3) := by decide +kernel
theorem dX10_whyNot_61 : decode cX10_whyNot 61 = .ok (.iaload, 1) := by decide +kernel
theorem dX10_whyNot_62 : decode cX10_whyNot 62 = .ok (.iload 5, 2) := by decide +kernel
theorem dX10_whyNot_64 : decode cX10_whyNot 64 = .ok (.if_icmp .gt 5, 3) := by decide +kernel
theorem dX10_whyNot_67 : decode cX10_whyNot 67 = .ok (.iconst 4, 1) := by decide +kernel
theorem dX10_whyNot_68 : decode cX10_whyNot 68 = .ok (.ireturn, 1) := by decide +kernel
theorem dX10_whyNot_69 : decode cX10_whyNot 69 = .ok (.aload_n 0, 1) := by decide +kernel
theorem dX10_whyNot_70 : decode cX10_whyNot 70 = .ok (.getfield 19, 3) := by decide +kernel
theorem dX10_whyNot_73 : decode cX10_whyNot 73 = .ok (.getfield 152, 3) := by decide +kernel
theorem dX10_whyNot_76 : decode cX10_whyNot 76 = .ok (.aload_n 1, 1) := by decide +kernel
theorem dX10_whyNot_77 : decode cX10_whyNot 77 = .ok (.getfield 194, 3) := by decide +kernel
theorem dX10_whyNot_80 : decode cX10_whyNot 80 = .ok (.iaload, 1) := by decide +kernel
theorem dX10_whyNot_81 : decode cX10_whyNot 81 = .ok (.istore 6, 2) := by decide +kernel
theorem dX10_whyNot_83 : decode cX10_whyNot 83 = .ok (.iload 6, 2) := by decide +kernel
theorem dX10_whyNot_85 : decode cX10_whyNot 85 = .ok (.iload 4, 2) := by decide +kernel
theorem dX10_whyNot_87 : decode cX10_whyNot 87 = .ok (.if_icmp .gt 16, 3) := by decide +kernel
theorem dX10_whyNot_90 : decode cX10_whyNot 90 = .ok (.aload_n 1, 1) := by decide +kernel
theorem dX10_whyNot_91 : decode cX10_whyNot 91 = .ok (.getfield 200, 3) := by decide +kernel
theorem dX10_whyNot_94 : decode cX10_whyNot 94 = .ok (.iload 6, 2) := by decide +kernel
theorem dX10_whyNot_96 : decode cX10_whyNot 96 = .ok (.if_icmp .lt 7, 3) := by decide +kernel
theorem dX10_whyNot_99 : decode cX10_whyNot 99 = .ok (.iconst 5, 1) := by decide +kernel
theorem dX10_whyNot_100 : decode cX10_whyNot 100 = .ok (.goto 4, 3) := by decide +kernel
theorem dX10_whyNot_103 : decode cX10_whyNot 103 = .ok (.iconst 0, 1) := by decide +kernel
theorem dX10_whyNot_104 : decode cX10_whyNot 104 = .ok (.ireturn, 1) := by decide +kernel
theorem dX10_lightest_0 : decode cX10_lightest 0 = .ok (.aload_n 0, 1) := by decide +kernel
theorem dX10_lightest_1 : decode cX10_lightest 1 = .ok (.getfield 57, 3) := by decide +kernel
theorem dX10_lightest_4 : decode cX10_lightest 4 = .ok (.aload_n 0, 1) := by decide +kernel
theorem dX10_lightest_5 : decode cX10_lightest 5 = .ok (.getfield 43, 3) := by decide +kernel
theorem dX10_lightest_8 : decode cX10_lightest 8 = .ok (.getfield 286, 3) := by decide +kernel
theorem dX10_lightest_11 : decode cX10_lightest 11 = .ok (.iload_n 2, 1) := by decide +kernel
theorem dX10_lightest_12 : decode cX10_lightest 12 = .ok (.iaload, 1) := by decide +kernel
theorem dX10_lightest_13 : decode cX10_lightest 13 = .ok (.invokevirtual 369, 3) := by decide +kernel
theorem dX10_lightest_16 : decode cX10_lightest 16 = .ok (.iconst 0, 1) := by decide +kernel
theorem dX10_lightest_17 : decode cX10_lightest 17 = .ok (.istore 4, 2) := by decide +kernel
theorem dX10_lightest_19 : decode cX10_lightest 19 = .ok (.iload 4, 2) := by decide +kernel
theorem dX10_lightest_21 : decode cX10_lightest 21 = .ok (.aload_n 0, 1) := by decide +kernel
theorem dX10_lightest_22 : decode cX10_lightest 22 = .ok (.getfield 159, 3) := by decide +kernel
theorem dX10_lightest_25 : decode cX10_lightest 25 = .ok (.if_icmp .ge 61, 3) := by decide +kernel
theorem dX10_lightest_28 : decode cX10_lightest 28 = .ok (.aload_n 0, 1) := by decide +kernel
theorem dX10_lightest_29 : decode cX10_lightest 29 = .ok (.iload 4, 2) := by decide +kernel
theorem dX10_lightest_31 : decode cX10_lightest 31 = .ok (.invokevirtual 170, 3) := by decide +kernel
theorem dX10_lightest_34 : decode cX10_lightest 34 = .ok (.astore 5, 2) := by decide +kernel
theorem dX10_lightest_36 : decode cX10_lightest 36 = .ok (.aload 5, 2) := by decide +kernel
theorem dX10_lightest_38 : decode cX10_lightest 38 = .ok (.ifnull 42, 3) := by decide +kernel
theorem dX10_lightest_41 : decode cX10_lightest 41 = .ok (.aload 5, 2) := by decide +kernel
theorem dX10_lightest_43 : decode cX10_lightest 43 = .ok (.getfield 197, 3) := by decide +kernel
theorem dX10_lightest_46 : decode cX10_lightest 46 = .ok (.iload_n 1, 1) := by decide +kernel
theorem dX10_lightest_47 : decode cX10_lightest 47 = .ok (.if_icmp .ne 33, 3) := by decide +kernel
theorem dX10_lightest_50 : decode cX10_lightest 50 = .ok (.aload_n 0, 1) := by decide +kernel
theorem dX10_lightest_51 : decode cX10_lightest 51 = .ok (.aload 5, 2) := by decide +kernel
theorem dX10_lightest_53 : decode cX10_lightest 53 = .ok (.iload_n 2, 1) := by decide +kernel
theorem dX10_lightest_54 : decode cX10_lightest 54 = .ok (.iload_n 3, 1) := by decide +kernel
theorem dX10_lightest_55 : decode cX10_lightest 55 = .ok (.invokevirtual 268, 3) := by decide +kernel
theorem dX10_lightest_58 : decode cX10_lightest 58 = .ok (.ifCond .ne 22, 3) := by decide +kernel
theorem dX10_lightest_61 : decode cX10_lightest 61 = .ok (.aload_n 0, 1) := by decide +kernel
theorem dX10_lightest_62 : decode cX10_lightest 62 = .ok (.getfield 57, 3) := by decide +kernel
theorem dX10_lightest_65 : decode cX10_lightest 65 = .ok (.iload 4, 2) := by decide +kernel
theorem dX10_lightest_67 : decode cX10_lightest 67 = .ok (.aload_n 0, 1) := by decide +kernel
theorem dX10_lightest_68 : decode cX10_lightest 68 = .ok (.getfield 43, 3) := by decide +kernel
theorem dX10_lightest_71 : decode cX10_lightest 71 = .ok (.aload 5, 2) := by decide +kernel
theorem dX10_lightest_73 : decode cX10_lightest 73 = .ok (.iload_n 2, 1) := by decide +kernel
theorem dX10_lightest_74 : decode cX10_lightest 74 = .ok (.invokevirtual 373, 3) := by decide +kernel
theorem dX10_lightest_77 : decode cX10_lightest 77 = .ok (.invokevirtual 376, 3) := by decide +kernel
theorem dX10_lightest_80 : decode cX10_lightest 80 = .ok (.iinc 4 1, 3) := by decide +kernel
theorem dX10_lightest_83 : decode cX10_lightest 83 = .ok (.goto (-64), 3) := by decide +kernel
theorem dX10_lightest_86 : decode cX10_lightest 86 = .ok (.aload_n 0, 1) := by decide +kernel
theorem dX10_lightest_87 : decode cX10_lightest 87 = .ok (.getfield 57, 3) := by decide +kernel
theorem dX10_lightest_90 : decode cX10_lightest 90 = .ok (.invokevirtual 380, 3) := by decide +kernel
theorem dX10_lightest_93 : decode cX10_lightest 93 = .ok (.ireturn, 1) := by decide +kernel
theorem dX10_couldHaveMade_0 : decode cX10_couldHaveMade 0 = .ok (.aload_n 0, 1) := by decide +kernel
theorem dX10_couldHaveMade_1 : decode cX10_couldHaveMade 1 = .ok (.iload_n 1, 1) := by decide +kernel
theorem dX10_couldHaveMade_2 : decode cX10_couldHaveMade 2 = .ok (.invokevirtual 170, 3) := by decide +kernel
theorem dX10_couldHaveMade_5 : decode cX10_couldHaveMade 5 = .ok (.astore_n 3, 1) := by decide +kernel
theorem dX10_couldHaveMade_6 : decode cX10_couldHaveMade 6 = .ok (.iconst 0, 1) := by decide +kernel
theorem dX10_couldHaveMade_7 : decode cX10_couldHaveMade 7 = .ok (.istore 4, 2) := by decide +kernel
theorem dX10_couldHaveMade_9 : decode cX10_couldHaveMade 9 = .ok (.iconst 0, 1) := by decide +kernel
theorem dX10_couldHaveMade_10 : decode cX10_couldHaveMade 10 = .ok (.istore 5, 2) := by decide +kernel
theorem dX10_couldHaveMade_12 : decode cX10_couldHaveMade 12 = .ok (.iload 5, 2) := by decide +kernel
theorem dX10_couldHaveMade_14 : decode cX10_couldHaveMade 14 = .ok (.aload_n 0, 1) := by decide +kernel
theorem dX10_couldHaveMade_15 : decode cX10_couldHaveMade 15 = .ok (.getfield 159, 3) := by decide +kernel
theorem dX10_couldHaveMade_18 : decode cX10_couldHaveMade 18 = .ok (.if_icmp .ge 48, 3) := by decide +kernel
theorem dX10_couldHaveMade_21 : decode cX10_couldHaveMade 21 = .ok (.aload_n 0, 1) := by decide +kernel
theorem dX10_couldHaveMade_22 : decode cX10_couldHaveMade 22 = .ok (.iload 5, 2) := by decide +kernel
theorem dX10_couldHaveMade_24 : decode cX10_couldHaveMade 24 = .ok (.invokevirtual 170, 3) := by decide +kernel
theorem dX10_couldHaveMade_27 : decode cX10_couldHaveMade 27 = .ok (.astore 6, 2) := by decide +kernel
theorem dX10_couldHaveMade_29 : decode cX10_couldHaveMade 29 = .ok (.aload 6, 2) := by decide +kernel
theorem dX10_couldHaveMade_31 : decode cX10_couldHaveMade 31 = .ok (.ifnull 29, 3) := by decide +kernel
theorem dX10_couldHaveMade_34 : decode cX10_couldHaveMade 34 = .ok (.aload_n 3, 1) := by decide +kernel
theorem dX10_couldHaveMade_35 : decode cX10_couldHaveMade 35 = .ok (.ifnull 25, 3) := by decide +kernel
theorem dX10_couldHaveMade_38 : decode cX10_couldHaveMade 38 = .ok (.aload 6, 2) := by decide +kernel
theorem dX10_couldHaveMade_40 : decode cX10_couldHaveMade 40 = .ok (.aload_n 3, 1) := by decide +kernel
theorem dX10_couldHaveMade_41 : decode cX10_couldHaveMade 41 = .ok (.iload_n 2, 1) := by decide +kernel
theorem dX10_couldHaveMade_42 : decode cX10_couldHaveMade 42 = .ok (.invokevirtual 383, 3) := by decide +kernel
theorem dX10_couldHaveMade_45 : decode cX10_couldHaveMade 45 = .ok (.ifCond .eq 15, 3) := by decide +kernel
theorem dX10_couldHaveMade_48 : decode cX10_couldHaveMade 48 = .ok (.iload 4, 2) := by decide +kernel
theorem dX10_couldHaveMade_50 : decode cX10_couldHaveMade 50 = .ok (.iconst 1, 1) := by decide +kernel
theorem dX10_couldHaveMade_51 : decode cX10_couldHaveMade 51 = .ok (.aload 6, 2) := by decide +kernel
theorem dX10_couldHaveMade_53 : decode cX10_couldHaveMade 53 = .ok (.getfield 197, 3) := by decide +kernel
theorem dX10_couldHaveMade_56 : decode cX10_couldHaveMade 56 = .ok (.ishl, 1) := by decide +kernel
theorem dX10_couldHaveMade_57 : decode cX10_couldHaveMade 57 = .ok (.ior, 1) := by decide +kernel
theorem dX10_couldHaveMade_58 : decode cX10_couldHaveMade 58 = .ok (.istore 4, 2) := by decide +kernel
theorem dX10_couldHaveMade_60 : decode cX10_couldHaveMade 60 = .ok (.iinc 5 1, 3) := by decide +kernel
theorem dX10_couldHaveMade_63 : decode cX10_couldHaveMade 63 = .ok (.goto (-51), 3) := by decide +kernel
theorem dX10_couldHaveMade_66 : decode cX10_couldHaveMade 66 = .ok (.iload 4, 2) := by decide +kernel
theorem dX10_couldHaveMade_68 : decode cX10_couldHaveMade 68 = .ok (.ireturn, 1) := by decide +kernel
theorem dX10_goneCount_0 : decode cX10_goneCount 0 = .ok (.iconst 0, 1) := by decide +kernel
theorem dX10_goneCount_1 : decode cX10_goneCount 1 = .ok (.istore_n 1, 1) := by decide +kernel
theorem dX10_goneCount_2 : decode cX10_goneCount 2 = .ok (.iconst 0, 1) := by decide +kernel
theorem dX10_goneCount_3 : decode cX10_goneCount 3 = .ok (.istore_n 2, 1) := by decide +kernel
theorem dX10_goneCount_4 : decode cX10_goneCount 4 = .ok (.iload_n 2, 1) := by decide +kernel
theorem dX10_goneCount_5 : decode cX10_goneCount 5 = .ok (.aload_n 0, 1) := by decide +kernel
theorem dX10_goneCount_6 : decode cX10_goneCount 6 = .ok (.getfield 159, 3) := by decide +kernel
theorem dX10_goneCount_9 : decode cX10_goneCount 9 = .ok (.if_icmp .ge 34, 3) := by decide +kernel
theorem dX10_goneCount_12 : decode cX10_goneCount 12 = .ok (.aload_n 0, 1) := by decide +kernel
theorem dX10_goneCount_13 : decode cX10_goneCount 13 = .ok (.iload_n 2, 1) := by decide +kernel
theorem dX10_goneCount_14 : decode cX10_goneCount 14 = .ok (.invokevirtual 170, 3) := by decide +kernel
theorem dX10_goneCount_17 : decode cX10_goneCount 17 = .ok (.astore_n 3, 1) := by decide +kernel
theorem dX10_goneCount_18 : decode cX10_goneCount 18 = .ok (.aload_n 3, 1) := by decide +kernel
theorem dX10_goneCount_19 : decode cX10_goneCount 19 = .ok (.ifnull 18, 3) := by decide +kernel
theorem dX10_goneCount_22 : decode cX10_goneCount 22 = .ok (.aload_n 3, 1) := by decide +kernel
theorem dX10_goneCount_23 : decode cX10_goneCount 23 = .ok (.aload_n 0, 1) := by decide +kernel
theorem dX10_goneCount_24 : decode cX10_goneCount 24 = .ok (.getfield 326, 3) := by decide +kernel
theorem dX10_goneCount_27 : decode cX10_goneCount 27 = .ok (.invokevirtual 329, 3) := by decide +kernel
theorem dX10_goneCount_30 : decode cX10_goneCount 30 = .ok (.iconst 5, 1) := by decide +kernel
theorem dX10_goneCount_31 : decode cX10_goneCount 31 = .ok (.if_icmp .ne 6, 3) := by decide +kernel
theorem dX10_goneCount_34 : decode cX10_goneCount 34 = .ok (.iinc 1 1, 3) := by decide +kernel
theorem dX10_goneCount_37 : decode cX10_goneCount 37 = .ok (.iinc 2 1, 3) := by decide +kernel
theorem dX10_goneCount_40 : decode cX10_goneCount 40 = .ok (.goto (-36), 3) := by decide +kernel
theorem dX10_goneCount_43 : decode cX10_goneCount 43 = .ok (.iload_n 1, 1) := by decide +kernel
theorem dX10_goneCount_44 : decode cX10_goneCount 44 = .ok (.ireturn, 1) := by decide +kernel
