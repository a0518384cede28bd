theorem dX6_init_0 : decode cX6_init 0 = .ok (.aload_n 0, 1) := by decide +kernel
theorem dX6_init_1 : decode cX6_init 1 = .ok (.invokespecial 1, 3) := by decide +kernel
theorem dX6_init_4 : decode cX6_init 4 = .ok (.aload_n 0, 1) := by decide +kernel
theorem dX6_init_5 : decode cX6_init 5 = .ok (.bipush 8, 2) := by decide +kernel
theorem dX6_init_7 : decode cX6_init 7 = .ok (.anewarray 9, 3) := by decide +kernel
theorem dX6_init_10 : decode cX6_init 10 = .ok (.putfield 11, 3) := by decide +kernel
theorem dX6_init_13 : decode cX6_init 13 = .ok (.aload_n 0, 1) := by decide +kernel
theorem dX6_init_14 : decode cX6_init 14 = .ok (.new 15, 3) := by decide +kernel
theorem dX6_init_17 : decode cX6_init 17 = .ok (.dup, 1) := by decide +kernel
theorem dX6_init_18 : decode cX6_init 18 = .ok (.invokespecial 17, 3) := by decide +kernel
theorem dX6_init_21 : decode cX6_init 21 = .ok (.putfield 18, 3) := by decide +kernel
theorem dX6_init_24 : decode cX6_init 24 = .ok (.aload_n 0, 1) := by decide +kernel
theorem dX6_init_25 : decode cX6_init 25 = .ok (.new 22, 3) := by decide +kernel
theorem dX6_init_28 : decode cX6_init 28 = .ok (.dup, 1) := by decide +kernel
theorem dX6_init_29 : decode cX6_init 29 = .ok (.invokespecial 24, 3) := by decide +kernel
theorem dX6_init_32 : decode cX6_init 32 = .ok (.putfield 25, 3) := by decide +kernel
theorem dX6_init_35 : decode cX6_init 35 = .ok (.aload_n 0, 1) := by decide +kernel
theorem dX6_init_36 : decode cX6_init 36 = .ok (.new 22, 3) := by decide +kernel
theorem dX6_init_39 : decode cX6_init 39 = .ok (.dup, 1) := by decide +kernel
theorem dX6_init_40 : decode cX6_init 40 = .ok (.invokespecial 24, 3) := by decide +kernel
theorem dX6_init_43 : decode cX6_init 43 = .ok (.putfield 29, 3) := by decide +kernel
theorem dX6_init_46 : decode cX6_init 46 = .ok (.aload_n 0, 1) := by decide +kernel
theorem dX6_init_47 : decode cX6_init 47 = .ok (.new 32, 3) := by decide +kernel
theorem dX6_init_50 : decode cX6_init 50 = .ok (.dup, 1) := by decide +kernel
theorem dX6_init_51 : decode cX6_init 51 = .ok (.invokespecial 34, 3) := by decide +kernel
theorem dX6_init_54 : decode cX6_init 54 = .ok (.putfield 35, 3) := by decide +kernel
theorem dX6_init_57 : decode cX6_init 57 = .ok (.aload_n 0, 1) := by decide +kernel
theorem dX6_init_58 : decode cX6_init 58 = .ok (.new 39, 3) := by decide +kernel
theorem dX6_init_61 : decode cX6_init 61 = .ok (.dup, 1) := by decide +kernel
theorem dX6_init_62 : decode cX6_init 62 = .ok (.invokespecial 41, 3) := by decide +kernel
theorem dX6_init_65 : decode cX6_init 65 = .ok (.putfield 42, 3) := by decide +kernel
theorem dX6_init_68 : decode cX6_init 68 = .ok (.aload_n 0, 1) := by decide +kernel
theorem dX6_init_69 : decode cX6_init 69 = .ok (.iconst 2, 1) := by decide +kernel
theorem dX6_init_70 : decode cX6_init 70 = .ok (.anewarray 22, 3) := by decide +kernel
theorem dX6_init_73 : decode cX6_init 73 = .ok (.putfield 46, 3) := by decide +kernel
theorem dX6_init_76 : decode cX6_init 76 = .ok (.aload_n 0, 1) := by decide +kernel
theorem dX6_init_77 : decode cX6_init 77 = .ok (.new 50, 3) := by decide +kernel
theorem dX6_init_80 : decode cX6_init 80 = .ok (.dup, 1) := by decide +kernel
theorem dX6_init_81 : decode cX6_init 81 = .ok (.invokespecial 52, 3) := by decide +kernel
theorem dX6_init_84 : decode cX6_init 84 = .ok (.putfield 53, 3) := by decide +kernel
theorem dX6_init_87 : decode cX6_init 87 = .ok (.iconst 0, 1) := by decide +kernel
theorem dX6_init_88 : decode cX6_init 88 = .ok (.istore_n 1, 1) := by decide +kernel
theorem dX6_init_89 : decode cX6_init 89 = .ok (.iload_n 1, 1) := by decide +kernel
theorem dX6_init_90 : decode cX6_init 90 = .ok (.bipush 8, 2) := by decide +kernel
theorem dX6_init_92 : decode cX6_init 92 = .ok (.if_icmp .ge 22, 3) := by decide +kernel
theorem dX6_init_95 : decode cX6_init 95 = .ok (.aload_n 0, 1) := by decide +kernel
theorem dX6_init_96 : decode cX6_init 96 = .ok (.getfield 11, 3) := by decide +kernel
theorem dX6_init_99 : decode cX6_init 99 = .ok (.iload_n 1, 1) := by decide +kernel
theorem dX6_init_100 : decode cX6_init 100 = .ok (.new 9, 3) := by decide +kernel
theorem dX6_init_103 : decode cX6_init 103 = .ok (.dup, 1) := by decide +kernel
theorem dX6_init_104 : decode cX6_init 104 = .ok (.invokespecial 57, 3) := by decide +kernel
theorem dX6_init_107 : decode cX6_init 107 = .ok (.aastore, 1) := by decide +kernel
theorem dX6_init_108 : decode cX6_init 108 = .ok (.iinc 1 1, 3) := by decide +kernel
theorem dX6_init_111 : decode cX6_init 111 = .ok (.goto (-22), 3) := by decide +kernel
theorem dX6_init_114 : decode cX6_init 114 = .ok (.iconst 0, 1) := by decide +kernel
theorem dX6_init_115 : decode cX6_init 115 = .ok (.istore_n 1, 1) := by decide +kernel
theorem dX6_init_116 : decode cX6_init 116 = .ok (.iload_n 1, 1) := by decide +kernel
theorem dX6_init_117 : decode cX6_init 117 = .ok (.iconst 2, 1) := by decide +kernel
theorem dX6_init_118 : decode cX6_init 118 = .ok (.if_icmp .ge 22, 3) := by decide +kernel
theorem dX6_init_121 : decode cX6_init 121 = .ok (.aload_n 0, 1) := by decide +kernel
theorem dX6_init_122 : decode cX6_init 122 = .ok (.getfield 46, 3) := by decide +kernel
theorem dX6_init_125 : decode cX6_init 125 = .ok (.iload_n 1, 1) := by decide +kernel
theorem dX6_init_126 : decode cX6_init 126 = .ok (.new 22, 3) := by decide +kernel
theorem dX6_init_129 : decode cX6_init 129 = .ok (.dup, 1) := by decide +kernel
theorem dX6_init_130 : decode cX6_init 130 = .ok (.invokespecial 24, 3) := by decide +kernel
theorem dX6_init_133 : decode cX6_init 133 = .ok (.aastore, 1) := by decide +kernel
theorem dX6_init_134 : decode cX6_init 134 = .ok (.iinc 1 1, 3) := by decide +kernel
theorem dX6_init_137 : decode cX6_init 137 = .ok (.goto (-21), 3) := by decide +kernel
theorem dX6_init_140 : decode cX6_init 140 = .ok (.return_, 1) := by decide +kernel
theorem dX6_row_0 : decode cX6_row 0 = .ok (.iload_n 1, 1) := by decide +kernel
theorem dX6_row_1 : decode cX6_row 1 = .ok (.invokestatic 58, 3) := by decide +kernel
theorem dX6_row_4 : decode cX6_row 4 = .ok (.ifCond .eq 18, 3) := by decide +kernel
theorem dX6_row_7 : decode cX6_row 7 = .ok (.iload_n 2, 1) := by decide +kernel
theorem dX6_row_8 : decode cX6_row 8 = .ok (.iconst 0, 1) := by decide +kernel
theorem dX6_row_9 : decode cX6_row 9 = .ok (.iconst 2, 1) := by decide +kernel
theorem dX6_row_10 : decode cX6_row 10 = .ok (.invokestatic 62, 3) := by decide +kernel
theorem dX6_row_13 : decode cX6_row 13 = .ok (.ifCond .eq 9, 3) := by decide +kernel
theorem dX6_row_16 : decode cX6_row 16 = .ok (.iload_n 3, 1) := by decide +kernel
theorem dX6_row_17 : decode cX6_row 17 = .ok (.bipush 40, 2) := by decide +kernel
theorem dX6_row_19 : decode cX6_row 19 = .ok (.if_icmp .le 6, 3) := by decide +kernel
theorem dX6_row_22 : decode cX6_row 22 = .ok (.ldc 66, 2) := by decide +kernel
theorem dX6_row_24 : decode cX6_row 24 = .ok (.ireturn, 1) := by decide +kernel
theorem dX6_row_25 : decode cX6_row 25 = .ok (.iload_n 3, 1) := by decide +kernel
theorem dX6_row_26 : decode cX6_row 26 = .ok (.ifCond .ge 9, 3) := by decide +kernel
theorem dX6_row_29 : decode cX6_row 29 = .ok (.aload_n 0, 1) := by decide +kernel
theorem dX6_row_30 : decode cX6_row 30 = .ok (.iconst 4, 1) := by decide +kernel
theorem dX6_row_31 : decode cX6_row 31 = .ok (.invokevirtual 67, 3) := by decide +kernel
theorem dX6_row_34 : decode cX6_row 34 = .ok (.ireturn, 1) := by decide +kernel
theorem dX6_row_35 : decode cX6_row 35 = .ok (.aload_n 0, 1) := by decide +kernel
theorem dX6_row_36 : decode cX6_row 36 = .ok (.getfield 11, 3) := by decide +kernel
theorem dX6_row_39 : decode cX6_row 39 = .ok (.iload_n 1, 1) := by decide +kernel
theorem dX6_row_40 : decode cX6_row 40 = .ok (.aaload, 1) := by decide +kernel
theorem dX6_row_41 : decode cX6_row 41 = .ok (.iload_n 2, 1) := by decide +kernel
theorem dX6_row_42 : decode cX6_row 42 = .ok (.iload_n 3, 1) := by decide +kernel
theorem dX6_row_43 : decode cX6_row 43 = .ok (.invokevirtual 71, 3) := by decide +kernel
theorem dX6_row_46 : decode cX6_row 46 = .ok (.aload_n 0, 1) := by decide +kernel
theorem dX6_row_47 : decode cX6_row 47 = .ok (.iload_n 3, 1) := by decide +kernel
theorem dX6_row_48 : decode cX6_row 48 = .ok (.invokevirtual 75, 3) := by decide +kernel
theorem dX6_row_51 : decode cX6_row 51 = .ok (.ireturn, 1) := by decide +kernel
theorem dX6_set_0 : decode cX6_set 0 = .ok (.iload_n 1, 1) := by decide +kernel
theorem dX6_set_1 : decode cX6_set 1 = .ok (.invokestatic 58, 3) := by decide +kernel
theorem dX6_set_4 : decode cX6_set 4 = .ok (.ifCond .ne 6, 3) := by decide +kernel
theorem dX6_set_7 : decode cX6_set 7 = .ok (.ldc 66, 2) := by decide +kernel
theorem dX6_set_9 : decode cX6_set 9 = .ok (.ireturn, 1) := by decide +kernel
theorem dX6_set_10 : decode cX6_set 10 = .ok (.aload_n 0, 1) := by decide +kernel
theorem dX6_set_11 : decode cX6_set 11 = .ok (.iload_n 1, 1) := by decide +kernel
theorem dX6_set_12 : decode cX6_set 12 = .ok (.iload_n 2, 1) := by decide +kernel
theorem dX6_set_13 : decode cX6_set 13 = .ok (.iconst 1, 1) := by decide +kernel
theorem dX6_set_14 : decode cX6_set 14 = .ok (.invokevirtual 78, 3) := by decide +kernel
theorem dX6_set_17 : decode cX6_set 17 = .ok (.istore 4, 2) := by decide +kernel
theorem dX6_set_19 : decode cX6_set 19 = .ok (.iload 4, 2) := by decide +kernel
theorem dX6_set_21 : decode cX6_set 21 = .ok (.ifCond .eq 10, 3) := by decide +kernel
theorem dX6_set_24 : decode cX6_set 24 = .ok (.aload_n 0, 1) := by decide +kernel
theorem dX6_set_25 : decode cX6_set 25 = .ok (.iload 4, 2) := by decide +kernel
theorem dX6_set_27 : decode cX6_set 27 = .ok (.invokevirtual 67, 3) := by decide +kernel
theorem dX6_set_30 : decode cX6_set 30 = .ok (.ireturn, 1) := by decide +kernel
theorem dX6_set_31 : decode cX6_set 31 = .ok (.aload_n 0, 1) := by decide +kernel
theorem dX6_set_32 : decode cX6_set 32 = .ok (.aload_n 0, 1) := by decide +kernel
theorem dX6_set_33 : decode cX6_set 33 = .ok (.getfield 11, 3) := by decide +kernel
theorem dX6_set_36 : decode cX6_set 36 = .ok (.iload_n 1, 1) := by decide +kernel
theorem dX6_set_37 : decode cX6_set 37 = .ok (.aaload, 1) := by decide +kernel
theorem dX6_set_38 : decode cX6_set 38 = .ok (.iload_n 2, 1) := by decide +kernel
theorem dX6_set_39 : decode cX6_set 39 = .ok (.iload_n 3, 1) := by decide +kernel
theorem dX6_set_40 : decode cX6_set 40 = .ok (.invokevirtual 82, 3) := by decide +kernel
theorem dX6_set_43 : decode cX6_set 43 = .ok (.invokevirtual 75, 3) := by decide +kernel
theorem dX6_set_46 : decode cX6_set 46 = .ok (.ireturn, 1) := by decide +kernel
theorem dX6_copy_0 : decode cX6_copy 0 = .ok (.iload_n 1, 1) := by decide +kernel
theorem dX6_copy_1 : decode cX6_copy 1 = .ok (.invokestatic 58, 3) := by decide +kernel
theorem dX6_copy_4 : decode cX6_copy 4 = .ok (.ifCond .eq 10, 3) := by decide +kernel
theorem dX6_copy_7 : decode cX6_copy 7 = .ok (.iload_n 3, 1) := by decide +kernel
theorem dX6_copy_8 : decode cX6_copy 8 = .ok (.invokestatic 58, 3) := by decide +kernel
theorem dX6_copy_11 : decode cX6_copy 11 = .ok (.ifCond .ne 6, 3) := by decide +kernel
theorem dX6_copy_14 : decode cX6_copy 14 = .ok (.ldc 66, 2) := by decide +kernel
theorem dX6_copy_16 : decode cX6_copy 16 = .ok (.ireturn, 1) := by decide +kernel
theorem dX6_copy_17 : decode cX6_copy 17 = .ok (.aload_n 0, 1) := by decide +kernel
theorem dX6_copy_18 : decode cX6_copy 18 = .ok (.getfield 11, 3) := by decide +kernel
theorem dX6_copy_21 : decode cX6_copy 21 = .ok (.iload_n 1, 1) := by decide +kernel
theorem dX6_copy_22 : decode cX6_copy 22 = .ok (.aaload, 1) := by decide +kernel
theorem dX6_copy_23 : decode cX6_copy 23 = .ok (.astore 6, 2) := by decide +kernel
theorem dX6_copy_25 : decode cX6_copy 25 = .ok (.aload_n 0, 1) := by decide +kernel
theorem dX6_copy_26 : decode cX6_copy 26 = .ok (.getfield 11, 3) := by decide +kernel
theorem dX6_copy_29 : decode cX6_copy 29 = .ok (.iload_n 3, 1) := by decide +kernel
theorem dX6_copy_30 : decode cX6_copy 30 = .ok (.aaload, 1) := by decide +kernel
theorem dX6_copy_31 : decode cX6_copy 31 = .ok (.astore 7, 2) := by decide +kernel
theorem dX6_copy_33 : decode cX6_copy 33 = .ok (.aload 6, 2) := by decide +kernel
theorem dX6_copy_35 : decode cX6_copy 35 = .ok (.getfield 86, 3) := by decide +kernel
theorem dX6_copy_38 : decode cX6_copy 38 = .ok (.ifCond .ne 11, 3) := by decide +kernel
theorem dX6_copy_41 : decode cX6_copy 41 = .ok (.aload 7, 2) := by decide +kernel
theorem dX6_copy_43 : decode cX6_copy 43 = .ok (.getfield 86, 3) := by decide +kernel
theorem dX6_copy_46 : decode cX6_copy 46 = .ok (.ifCond .eq 9, 3) := by decide +kernel
theorem dX6_copy_49 : decode cX6_copy 49 = .ok (.aload_n 0, 1) := by decide +kernel
theorem dX6_copy_50 : decode cX6_copy 50 = .ok (.iconst 1, 1) := by decide +kernel
theorem dX6_copy_51 : decode cX6_copy 51 = .ok (.invokevirtual 67, 3) := by decide +kernel
theorem dX6_copy_54 : decode cX6_copy 54 = .ok (.ireturn, 1) := by decide +kernel
theorem dX6_copy_55 : decode cX6_copy 55 = .ok (.aload 6, 2) := by decide +kernel
theorem dX6_copy_57 : decode cX6_copy 57 = .ok (.getfield 90, 3) := by decide +kernel
theorem dX6_copy_60 : decode cX6_copy 60 = .ok (.aload 7, 2) := by decide +kernel
theorem dX6_copy_62 : decode cX6_copy 62 = .ok (.getfield 90, 3) := by decide +kernel
theorem dX6_copy_65 : decode cX6_copy 65 = .ok (.if_icmp .eq 9, 3) := by decide +kernel
theorem dX6_copy_68 : decode cX6_copy 68 = .ok (.aload_n 0, 1) := by decide +kernel
theorem dX6_copy_69 : decode cX6_copy 69 = .ok (.iconst 5, 1) := by decide +kernel
theorem dX6_copy_70 : decode cX6_copy 70 = .ok (.invokevirtual 67, 3) := by decide +kernel
theorem dX6_copy_73 : decode cX6_copy 73 = .ok (.ireturn, 1) := by decide +kernel
theorem dX6_copy_74 : decode cX6_copy 74 = .ok (.aload 6, 2) := by decide +kernel
theorem dX6_copy_76 : decode cX6_copy 76 = .ok (.iload_n 2, 1) := by decide +kernel
theorem dX6_copy_77 : decode cX6_copy 77 = .ok (.iload 5, 2) := by decide +kernel
theorem dX6_copy_79 : decode cX6_copy 79 = .ok (.invokevirtual 94, 3) := by decide +kernel
theorem dX6_copy_82 : decode cX6_copy 82 = .ok (.ifCond .eq 15, 3) := by decide +kernel
theorem dX6_copy_85 : decode cX6_copy 85 = .ok (.aload 7, 2) := by decide +kernel
theorem dX6_copy_87 : decode cX6_copy 87 = .ok (.iload 4, 2) := by decide +kernel
theorem dX6_copy_89 : decode cX6_copy 89 = .ok (.iload 5, 2) := by decide +kernel
theorem dX6_copy_91 : decode cX6_copy 91 = .ok (.invokevirtual 94, 3) := by decide +kernel
theorem dX6_copy_94 : decode cX6_copy 94 = .ok (.ifCond .ne 9, 3) := by decide +kernel
theorem dX6_copy_97 : decode cX6_copy 97 = .ok (.aload_n 0, 1) := by decide +kernel
theorem dX6_copy_98 : decode cX6_copy 98 = .ok (.iconst 2, 1) := by decide +kernel
theorem dX6_copy_99 : decode cX6_copy 99 = .ok (.invokevirtual 67, 3) := by decide +kernel
theorem dX6_copy_102 : decode cX6_copy 102 = .ok (.ireturn, 1) := by decide +kernel
theorem dX6_copy_103 : decode cX6_copy 103 = .ok (.aload 6, 2) := by decide +kernel
theorem dX6_copy_105 : decode cX6_copy 105 = .ok (.getfield 98, 3) := by decide +kernel
theorem dX6_copy_108 : decode cX6_copy 108 = .ok (.iload_n 2, 1) := by decide +kernel
theorem dX6_copy_109 : decode cX6_copy 109 = .ok (.aload 7, 2) := by decide +kernel
theorem dX6_copy_111 : decode cX6_copy 111 = .ok (.getfield 98, 3) := by decide +kernel
theorem dX6_copy_114 : decode cX6_copy 114 = .ok (.iload 4, 2) := by decide +kernel
theorem dX6_copy_116 : decode cX6_copy 116 = .ok (.iload 5, 2) := by decide +kernel
theorem dX6_copy_118 : decode cX6_copy 118 = .ok (.invokestatic 102, 3) := by decide +kernel
theorem dX6_copy_121 : decode cX6_copy 121 = .ok (.aload_n 0, 1) := by decide +kernel
theorem dX6_copy_122 : decode cX6_copy 122 = .ok (.iload 5, 2) := by decide +kernel
theorem dX6_copy_124 : decode cX6_copy 124 = .ok (.invokevirtual 75, 3) := by decide +kernel
theorem dX6_copy_127 : decode cX6_copy 127 = .ok (.ireturn, 1) := by decide +kernel
theorem dX6_drop_0 : decode cX6_drop 0 = .ok (.iload_n 1, 1) := by decide +kernel
theorem dX6_drop_1 : decode cX6_drop 1 = .ok (.invokestatic 58, 3) := by decide +kernel
theorem dX6_drop_4 : decode cX6_drop 4 = .ok (.ifCond .ne 6, 3) := by decide +kernel
theorem dX6_drop_7 : decode cX6_drop 7 = .ok (.ldc 66, 2) := by decide +kernel
theorem dX6_drop_9 : decode cX6_drop 9 = .ok (.ireturn, 1) := by decide +kernel
theorem dX6_drop_10 : decode cX6_drop 10 = .ok (.aload_n 0, 1) := by decide +kernel
theorem dX6_drop_11 : decode cX6_drop 11 = .ok (.getfield 11, 3) := by decide +kernel
theorem dX6_drop_14 : decode cX6_drop 14 = .ok (.iload_n 1, 1) := by decide +kernel
theorem dX6_drop_15 : decode cX6_drop 15 = .ok (.aaload, 1) := by decide +kernel
theorem dX6_drop_16 : decode cX6_drop 16 = .ok (.getfield 86, 3) := by decide +kernel
theorem dX6_drop_19 : decode cX6_drop 19 = .ok (.ifCond .eq 9, 3) := by decide +kernel
theorem dX6_drop_22 : decode cX6_drop 22 = .ok (.aload_n 0, 1) := by decide +kernel
theorem dX6_drop_23 : decode cX6_drop 23 = .ok (.iconst 1, 1) := by decide +kernel
theorem dX6_drop_24 : decode cX6_drop 24 = .ok (.invokevirtual 67, 3) := by decide +kernel
theorem dX6_drop_27 : decode cX6_drop 27 = .ok (.ireturn, 1) := by decide +kernel
theorem dX6_drop_28 : decode cX6_drop 28 = .ok (.aload_n 0, 1) := by decide +kernel
theorem dX6_drop_29 : decode cX6_drop 29 = .ok (.getfield 11, 3) := by decide +kernel
theorem dX6_drop_32 : decode cX6_drop 32 = .ok (.iload_n 1, 1) := by decide +kernel
theorem dX6_drop_33 : decode cX6_drop 33 = .ok (.aaload, 1) := by decide +kernel
theorem dX6_drop_34 : decode cX6_drop 34 = .ok (.iconst 1, 1) := by decide +kernel
theorem dX6_drop_35 : decode cX6_drop 35 = .ok (.putfield 86, 3) := by decide +kernel
theorem dX6_drop_38 : decode cX6_drop 38 = .ok (.aload_n 0, 1) := by decide +kernel
theorem dX6_drop_39 : decode cX6_drop 39 = .ok (.aload_n 0, 1) := by decide +kernel
theorem dX6_drop_40 : decode cX6_drop 40 = .ok (.getfield 11, 3) := by decide +kernel
theorem dX6_drop_43 : decode cX6_drop 43 = .ok (.iload_n 1, 1) := by decide +kernel
theorem dX6_drop_44 : decode cX6_drop 44 = .ok (.aaload, 1) := by decide +kernel
theorem dX6_drop_45 : decode cX6_drop 45 = .ok (.getfield 108, 3) := by decide +kernel
theorem dX6_drop_48 : decode cX6_drop 48 = .ok (.invokevirtual 75, 3) := by decide +kernel
theorem dX6_drop_51 : decode cX6_drop 51 = .ok (.ireturn, 1) := by decide +kernel
theorem dX6_feed_0 : decode cX6_feed 0 = .ok (.iload_n 1, 1) := by decide +kernel
theorem dX6_feed_1 : decode cX6_feed 1 = .ok (.iconst 0, 1) := by decide +kernel
theorem dX6_feed_2 : decode cX6_feed 2 = .ok (.sipush 255, 3) := by decide +kernel
theorem dX6_feed_5 : decode cX6_feed 5 = .ok (.invokestatic 62, 3) := by decide +kernel
theorem dX6_feed_8 : decode cX6_feed 8 = .ok (.ifCond .ne 6, 3) := by decide +kernel
theorem dX6_feed_11 : decode cX6_feed 11 = .ok (.ldc 66, 2) := by decide +kernel
theorem dX6_feed_13 : decode cX6_feed 13 = .ok (.ireturn, 1) := by decide +kernel
theorem dX6_feed_14 : decode cX6_feed 14 = .ok (.aload_n 0, 1) := by decide +kernel
theorem dX6_feed_15 : decode cX6_feed 15 = .ok (.getfield 18, 3) := by decide +kernel
theorem dX6_feed_18 : decode cX6_feed 18 = .ok (.iload_n 1, 1) := by decide +kernel
theorem dX6_feed_19 : decode cX6_feed 19 = .ok (.invokevirtual 111, 3) := by decide +kernel
theorem dX6_feed_22 : decode cX6_feed 22 = .ok (.ifCond .eq 13, 3) := by decide +kernel
theorem dX6_feed_25 : decode cX6_feed 25 = .ok (.aload_n 0, 1) := by decide +kernel
theorem dX6_feed_26 : decode cX6_feed 26 = .ok (.getfield 18, 3) := by decide +kernel
theorem dX6_feed_29 : decode cX6_feed 29 = .ok (.getfield 114, 3) := by decide +kernel
theorem dX6_feed_32 : decode cX6_feed 32 = .ok (.goto 5, 3) := by decide +kernel
theorem dX6_feed_35 : decode cX6_feed 35 = .ok (.ldc 115, 2) := by decide +kernel
theorem dX6_feed_37 : decode cX6_feed 37 = .ok (.ireturn, 1) := by decide +kernel
theorem dX6_basket_0 : decode cX6_basket 0 = .ok (.aload_n 0, 1) := by decide +kernel
theorem dX6_basket_1 : decode cX6_basket 1 = .ok (.getfield 18, 3) := by decide +kernel
theorem dX6_basket_4 : decode cX6_basket 4 = .ok (.aload_n 0, 1) := by decide +kernel
theorem dX6_basket_5 : decode cX6_basket 5 = .ok (.getfield 29, 3) := by decide +kernel
theorem dX6_basket_8 : decode cX6_basket 8 = .ok (.invokevirtual 116, 3) := by decide +kernel
theorem dX6_basket_11 : decode cX6_basket 11 = .ok (.istore_n 1, 1) := by decide +kernel
theorem dX6_basket_12 : decode cX6_basket 12 = .ok (.iload_n 1, 1) := by decide +kernel
theorem dX6_basket_13 : decode cX6_basket 13 = .ok (.ifCond .eq 19, 3) := by decide +kernel
theorem dX6_basket_16 : decode cX6_basket 16 = .ok (.aload_n 0, 1) := by decide +kernel
theorem dX6_basket_17 : decode cX6_basket 17 = .ok (.iload_n 1, 1) := by decide +kernel
theorem dX6_basket_18 : decode cX6_basket 18 = .ok (.putfield 120, 3) := by decide +kernel
theorem dX6_basket_21 : decode cX6_basket 21 = .ok (.ldc 123, 2) := by decide +kernel
theorem dX6_basket_23 : decode cX6_basket 23 = .ok (.aload_n 0, 1) := by decide +kernel
theorem dX6_basket_24 : decode cX6_basket 24 = .ok (.getfield 18, 3) := by decide +kernel
theorem dX6_basket_27 : decode cX6_basket 27 = .ok (.getfield 124, 3) := by decide +kernel
theorem dX6_basket_30 : decode cX6_basket 30 = .ok (.isub, 1) := by decide +kernel
theorem dX6_basket_31 : decode cX6_basket 31 = .ok (.ireturn, 1) := by decide +kernel
theorem dX6_basket_32 : decode cX6_basket 32 = .ok (.aload_n 0, 1) := by decide +kernel
theorem dX6_basket_33 : decode cX6_basket 33 = .ok (.getfield 25, 3) := by decide +kernel
theorem dX6_basket_36 : decode cX6_basket 36 = .ok (.aload_n 0, 1) := by decide +kernel
theorem dX6_basket_37 : decode cX6_basket 37 = .ok (.getfield 29, 3) := by decide +kernel
theorem dX6_basket_40 : decode cX6_basket 40 = .ok (.invokevirtual 127, 3) := by decide +kernel
theorem dX6_basket_43 : decode cX6_basket 43 = .ok (.aload_n 0, 1) := by decide +kernel
theorem dX6_basket_44 : decode cX6_basket 44 = .ok (.getfield 35, 3) := by decide +kernel
theorem dX6_basket_47 : decode cX6_basket 47 = .ok (.invokevirtual 131, 3) := by decide +kernel
theorem dX6_basket_50 : decode cX6_basket 50 = .ok (.aload_n 0, 1) := by decide +kernel
theorem dX6_basket_51 : decode cX6_basket 51 = .ok (.getfield 25, 3) := by decide +kernel
theorem dX6_basket_54 : decode cX6_basket 54 = .ok (.getfield 134, 3) := by decide +kernel
theorem dX6_basket_57 : decode cX6_basket 57 = .ok (.ireturn, 1) := by decide +kernel
theorem dX6_fault_0 : decode cX6_fault 0 = .ok (.aload_n 0, 1) := by decide +kernel
theorem dX6_fault_1 : decode cX6_fault 1 = .ok (.getfield 120, 3) := by decide +kernel
theorem dX6_fault_4 : decode cX6_fault 4 = .ok (.ireturn, 1) := by decide +kernel
theorem dX6_ticks_0 : decode cX6_ticks 0 = .ok (.aload_n 0, 1) := by decide +kernel
theorem dX6_ticks_1 : decode cX6_ticks 1 = .ok (.getfield 25, 3) := by decide +kernel
theorem dX6_ticks_4 : decode cX6_ticks 4 = .ok (.getfield 134, 3) := by decide +kernel
theorem dX6_ticks_7 : decode cX6_ticks 7 = .ok (.ifCond .ne 6, 3) := by decide +kernel
theorem dX6_ticks_10 : decode cX6_ticks 10 = .ok (.ldc 137, 2) := by decide +kernel
theorem dX6_ticks_12 : decode cX6_ticks 12 = .ok (.ireturn, 1) := by decide +kernel
theorem dX6_ticks_13 : decode cX6_ticks 13 = .ok (.iload_n 1, 1) := by decide +kernel
theorem dX6_ticks_14 : decode cX6_ticks 14 = .ok (.iconst 1, 1) := by decide +kernel
theorem dX6_ticks_15 : decode cX6_ticks 15 = .ok (.bipush 24, 2) := by decide +kernel
theorem dX6_ticks_17 : decode cX6_ticks 17 = .ok (.invokestatic 62, 3) := by decide +kernel
theorem dX6_ticks_20 : decode cX6_ticks 20 = .ok (.ifCond .ne 6, 3) := by decide +kernel
theorem dX6_ticks_23 : decode cX6_ticks 23 = .ok (.ldc 66, 2) := by decide +kernel
theorem dX6_ticks_25 : decode cX6_ticks 25 = .ok (.ireturn, 1) := by decide +kernel
theorem dX6_ticks_26 : decode cX6_ticks 26 = .ok (.aload_n 0, 1) := by decide +kernel
theorem dX6_ticks_27 : decode cX6_ticks 27 = .ok (.getfield 25, 3) := by decide +kernel
theorem dX6_ticks_30 : decode cX6_ticks 30 = .ok (.getfield 138, 3) := by decide +kernel
theorem dX6_ticks_33 : decode cX6_ticks 33 = .ok (.iload_n 1, 1) := by decide +kernel
theorem dX6_ticks_34 : decode cX6_ticks 34 = .ok (.iadd, 1) := by decide +kernel
theorem dX6_ticks_35 : decode cX6_ticks 35 = .ok (.sipush 9999, 3) := by decide +kernel
theorem dX6_ticks_38 : decode cX6_ticks 38 = .ok (.if_icmp .le 6, 3) := by decide +kernel
theorem dX6_ticks_41 : decode cX6_ticks 41 = .ok (.ldc 115, 2) := by decide +kernel
theorem dX6_ticks_43 : decode cX6_ticks 43 = .ok (.ireturn, 1) := by decide +kernel
theorem dX6_ticks_44 : decode cX6_ticks 44 = .ok (.iconst 0, 1) := by decide +kernel
theorem dX6_ticks_45 : decode cX6_ticks 45 = .ok (.istore_n 2, 1) := by decide +kernel
theorem dX6_ticks_46 : decode cX6_ticks 46 = .ok (.iload_n 2, 1) := by decide +kernel
theorem dX6_ticks_47 : decode cX6_ticks 47 = .ok (.iload_n 1, 1) := by decide +kernel
theorem dX6_ticks_48 : decode cX6_ticks 48 = .ok (.if_icmp .ge 28, 3) := by decide +kernel
theorem dX6_ticks_51 : decode cX6_ticks 51 = .ok (.aload_n 0, 1) := by decide +kernel
theorem dX6_ticks_52 : decode cX6_ticks 52 = .ok (.getfield 35, 3) := by decide +kernel
theorem dX6_ticks_55 : decode cX6_ticks 55 = .ok (.aload_n 0, 1) := by decide +kernel
theorem dX6_ticks_56 : decode cX6_ticks 56 = .ok (.getfield 25, 3) := by decide +kernel
theorem dX6_ticks_59 : decode cX6_ticks 59 = .ok (.invokevirtual 141, 3) := by decide +kernel
theorem dX6_ticks_62 : decode cX6_ticks 62 = .ok (.aload_n 0, 1) := by decide +kernel
theorem dX6_ticks_63 : decode cX6_ticks 63 = .ok (.getfield 25, 3) := by decide +kernel
theorem dX6_ticks_66 : decode cX6_ticks 66 = .ok (.invokevirtual 144, 3) := by decide +kernel
theorem dX6_ticks_69 : decode cX6_ticks 69 = .ok (.pop, 1) := by decide +kernel
theorem dX6_ticks_70 : decode cX6_ticks 70 = .ok (.iinc 2 1, 3) := by decide +kernel
theorem dX6_ticks_73 : decode cX6_ticks 73 = .ok (.goto (-27), 3) := by decide +kernel
theorem dX6_ticks_76 : decode cX6_ticks 76 = .ok (.aload_n 0, 1) := by decide +kernel
theorem dX6_ticks_77 : decode cX6_ticks 77 = .ok (.getfield 25, 3) := by decide +kernel
theorem dX6_ticks_80 : decode cX6_ticks 80 = .ok (.getfield 148, 3) := by decide +kernel
theorem dX6_ticks_83 : decode cX6_ticks 83 = .ok (.ireturn, 1) := by decide +kernel
theorem dX6_key_0 : decode cX6_key 0 = .ok (.aload_n 0, 1) := by decide +kernel
theorem dX6_key_1 : decode cX6_key 1 = .ok (.getfield 25, 3) := by decide +kernel
theorem dX6_key_4 : decode cX6_key 4 = .ok (.iload_n 1, 1) := by decide +kernel
theorem dX6_key_5 : decode cX6_key 5 = .ok (.invokevirtual 151, 3) := by decide +kernel
theorem dX6_key_8 : decode cX6_key 8 = .ok (.ifCond .ne 6, 3) := by decide +kernel
theorem dX6_key_11 : decode cX6_key 11 = .ok (.ldc 66, 2) := by decide +kernel
theorem dX6_key_13 : decode cX6_key 13 = .ok (.ireturn, 1) := by decide +kernel
theorem dX6_key_14 : decode cX6_key 14 = .ok (.aload_n 0, 1) := by decide +kernel
theorem dX6_key_15 : decode cX6_key 15 = .ok (.getfield 25, 3) := by decide +kernel
theorem dX6_key_18 : decode cX6_key 18 = .ok (.iload_n 1, 1) := by decide +kernel
theorem dX6_key_19 : decode cX6_key 19 = .ok (.invokevirtual 153, 3) := by decide +kernel
theorem dX6_key_22 : decode cX6_key 22 = .ok (.ifCond .ne 6, 3) := by decide +kernel
theorem dX6_key_25 : decode cX6_key 25 = .ok (.ldc 137, 2) := by decide +kernel
theorem dX6_key_27 : decode cX6_key 27 = .ok (.ireturn, 1) := by decide +kernel
theorem dX6_key_28 : decode cX6_key 28 = .ok (.aload_n 0, 1) := by decide +kernel
theorem dX6_key_29 : decode cX6_key 29 = .ok (.getfield 35, 3) := by decide +kernel
theorem dX6_key_32 : decode cX6_key 32 = .ok (.aload_n 0, 1) := by decide +kernel
theorem dX6_key_33 : decode cX6_key 33 = .ok (.getfield 25, 3) := by decide +kernel
theorem dX6_key_36 : decode cX6_key 36 = .ok (.invokevirtual 141, 3) := by decide +kernel
theorem dX6_key_39 : decode cX6_key 39 = .ok (.aload_n 0, 1) := by decide +kernel
theorem dX6_key_40 : decode cX6_key 40 = .ok (.getfield 25, 3) := by decide +kernel
theorem dX6_key_43 : decode cX6_key 43 = .ok (.iload_n 1, 1) := by decide +kernel
theorem dX6_key_44 : decode cX6_key 44 = .ok (.invokevirtual 156, 3) := by decide +kernel
theorem dX6_key_47 : decode cX6_key 47 = .ok (.aload_n 0, 1) := by decide +kernel
theorem dX6_key_48 : decode cX6_key 48 = .ok (.getfield 25, 3) := by decide +kernel
theorem dX6_key_51 : decode cX6_key 51 = .ok (.getfield 160, 3) := by decide +kernel
theorem dX6_key_54 : decode cX6_key 54 = .ok (.ireturn, 1) := by decide +kernel
theorem dX6_free_0 : decode cX6_free 0 = .ok (.aload_n 0, 1) := by decide +kernel
theorem dX6_free_1 : decode cX6_free 1 = .ok (.getfield 25, 3) := by decide +kernel
theorem dX6_free_4 : decode cX6_free 4 = .ok (.getfield 148, 3) := by decide +kernel
theorem dX6_free_7 : decode cX6_free 7 = .ok (.ifCond .ne 6, 3) := by decide +kernel
theorem dX6_free_10 : decode cX6_free 10 = .ok (.ldc 137, 2) := by decide +kernel
theorem dX6_free_12 : decode cX6_free 12 = .ok (.ireturn, 1) := by decide +kernel
theorem dX6_free_13 : decode cX6_free 13 = .ok (.aload_n 0, 1) := by decide +kernel
theorem dX6_free_14 : decode cX6_free 14 = .ok (.getfield 25, 3) := by decide +kernel
theorem dX6_free_17 : decode cX6_free 17 = .ok (.getfield 148, 3) := by decide +kernel
theorem dX6_free_20 : decode cX6_free 20 = .ok (.invokestatic 163, 3) := by decide +kernel
theorem dX6_free_23 : decode cX6_free 23 = .ok (.istore_n 1, 1) := by decide +kernel
theorem dX6_free_24 : decode cX6_free 24 = .ok (.aload_n 0, 1) := by decide +kernel
theorem dX6_free_25 : decode cX6_free 25 = .ok (.getfield 35, 3) := by decide +kernel
theorem dX6_free_28 : decode cX6_free 28 = .ok (.aload_n 0, 1) := by decide +kernel
theorem dX6_free_29 : decode cX6_free 29 = .ok (.getfield 25, 3) := by decide +kernel
theorem dX6_free_32 : decode cX6_free 32 = .ok (.invokevirtual 141, 3) := by decide +kernel
theorem dX6_free_35 : decode cX6_free 35 = .ok (.aload_n 0, 1) := by decide +kernel
theorem dX6_free_36 : decode cX6_free 36 = .ok (.getfield 25, 3) := by decide +kernel
theorem dX6_free_39 : decode cX6_free 39 = .ok (.aload_n 0, 1) := by decide +kernel
theorem dX6_free_40 : decode cX6_free 40 = .ok (.getfield 25, 3) := by decide +kernel
theorem dX6_free_43 : decode cX6_free 43 = .ok (.getfield 148, 3) := by decide +kernel
theorem dX6_free_46 : decode cX6_free 46 = .ok (.invokevirtual 168, 3) := by decide +kernel
theorem dX6_free_49 : decode cX6_free 49 = .ok (.iload_n 1, 1) := by decide +kernel
theorem dX6_free_50 : decode cX6_free 50 = .ok (.ireturn, 1) := by decide +kernel
theorem dX6_back_0 : decode cX6_back 0 = .ok (.aload_n 0, 1) := by decide +kernel
theorem dX6_back_1 : decode cX6_back 1 = .ok (.getfield 25, 3) := by decide +kernel
theorem dX6_back_4 : decode cX6_back 4 = .ok (.getfield 134, 3) := by decide +kernel
theorem dX6_back_7 : decode cX6_back 7 = .ok (.ifCond .ne 6, 3) := by decide +kernel
theorem dX6_back_10 : decode cX6_back 10 = .ok (.ldc 137, 2) := by decide +kernel
theorem dX6_back_12 : decode cX6_back 12 = .ok (.ireturn, 1) := by decide +kernel
theorem dX6_back_13 : decode cX6_back 13 = .ok (.aload_n 0, 1) := by decide +kernel
theorem dX6_back_14 : decode cX6_back 14 = .ok (.getfield 25, 3) := by decide +kernel
theorem dX6_back_17 : decode cX6_back 17 = .ok (.getfield 171, 3) := by decide +kernel
theorem dX6_back_20 : decode cX6_back 20 = .ok (.istore_n 1, 1) := by decide +kernel
theorem dX6_back_21 : decode cX6_back 21 = .ok (.aload_n 0, 1) := by decide +kernel
theorem dX6_back_22 : decode cX6_back 22 = .ok (.getfield 35, 3) := by decide +kernel
theorem dX6_back_25 : decode cX6_back 25 = .ok (.aload_n 0, 1) := by decide +kernel
theorem dX6_back_26 : decode cX6_back 26 = .ok (.getfield 25, 3) := by decide +kernel
theorem dX6_back_29 : decode cX6_back 29 = .ok (.invokevirtual 141, 3) := by decide +kernel
theorem dX6_back_32 : decode cX6_back 32 = .ok (.aload_n 0, 1) := by decide +kernel
theorem dX6_back_33 : decode cX6_back 33 = .ok (.getfield 25, 3) := by decide +kernel
theorem dX6_back_36 : decode cX6_back 36 = .ok (.invokevirtual 174, 3) := by decide +kernel
theorem dX6_back_39 : decode cX6_back 39 = .ok (.iload_n 1, 1) := by decide +kernel
theorem dX6_back_40 : decode cX6_back 40 = .ok (.ireturn, 1) := by decide +kernel
theorem dX6_swap_0 : decode cX6_swap 0 = .ok (.aload_n 0, 1) := by decide +kernel
theorem dX6_swap_1 : decode cX6_swap 1 = .ok (.getfield 25, 3) := by decide +kernel
theorem dX6_swap_4 : decode cX6_swap 4 = .ok (.iload_n 1, 1) := by decide +kernel
theorem dX6_swap_5 : decode cX6_swap 5 = .ok (.invokevirtual 151, 3) := by decide +kernel
theorem dX6_swap_8 : decode cX6_swap 8 = .ok (.ifCond .eq 19, 3) := by decide +kernel
theorem dX6_swap_11 : decode cX6_swap 11 = .ok (.aload_n 0, 1) := by decide +kernel
theorem dX6_swap_12 : decode cX6_swap 12 = .ok (.getfield 25, 3) := by decide +kernel
theorem dX6_swap_15 : decode cX6_swap 15 = .ok (.iload_n 2, 1) := by decide +kernel
theorem dX6_swap_16 : decode cX6_swap 16 = .ok (.invokevirtual 151, 3) := by decide +kernel
theorem dX6_swap_19 : decode cX6_swap 19 = .ok (.ifCond .eq 8, 3) := by decide +kernel
theorem dX6_swap_22 : decode cX6_swap 22 = .ok (.iload_n 1, 1) := by decide +kernel
theorem dX6_swap_23 : decode cX6_swap 23 = .ok (.iload_n 2, 1) := by decide +kernel
theorem dX6_swap_24 : decode cX6_swap 24 = .ok (.if_icmp .ne 6, 3) := by decide +kernel
theorem dX6_swap_27 : decode cX6_swap 27 = .ok (.ldc 66, 2) := by decide +kernel
theorem dX6_swap_29 : decode cX6_swap 29 = .ok (.ireturn, 1) := by decide +kernel
theorem dX6_swap_30 : decode cX6_swap 30 = .ok (.aload_n 0, 1) := by decide +kernel
theorem dX6_swap_31 : decode cX6_swap 31 = .ok (.getfield 35, 3) := by decide +kernel
theorem dX6_swap_34 : decode cX6_swap 34 = .ok (.aload_n 0, 1) := by decide +kernel
theorem dX6_swap_35 : decode cX6_swap 35 = .ok (.getfield 25, 3) := by decide +kernel
theorem dX6_swap_38 : decode cX6_swap 38 = .ok (.invokevirtual 141, 3) := by decide +kernel
theorem dX6_swap_41 : decode cX6_swap 41 = .ok (.aload_n 0, 1) := by decide +kernel
theorem dX6_swap_42 : decode cX6_swap 42 = .ok (.getfield 25, 3) := by decide +kernel
theorem dX6_swap_45 : decode cX6_swap 45 = .ok (.iload_n 1, 1) := by decide +kernel
theorem dX6_swap_46 : decode cX6_swap 46 = .ok (.iload_n 2, 1) := by decide +kernel
theorem dX6_swap_47 : decode cX6_swap 47 = .ok (.invokevirtual 177, 3) := by decide +kernel
theorem dX6_swap_50 : decode cX6_swap 50 = .ok (.aload_n 0, 1) := by decide +kernel
theorem dX6_swap_51 : decode cX6_swap 51 = .ok (.getfield 25, 3) := by decide +kernel
theorem dX6_swap_54 : decode cX6_swap 54 = .ok (.getfield 180, 3) := by decide +kernel
theorem dX6_swap_57 : decode cX6_swap 57 = .ok (.iload_n 1, 1) := by decide +kernel
theorem dX6_swap_58 : decode cX6_swap 58 = .ok (.iaload, 1) := by decide +kernel
theorem dX6_swap_59 : decode cX6_swap 59 = .ok (.ireturn, 1) := by decide +kernel
theorem dX6_undo_0 : decode cX6_undo 0 = .ok (.aload_n 0, 1) := by decide +kernel
theorem dX6_undo_1 : decode cX6_undo 1 = .ok (.getfield 35, 3) := by decide +kernel
theorem dX6_undo_4 : decode cX6_undo 4 = .ok (.getfield 183, 3) := by decide +kernel
theorem dX6_undo_7 : decode cX6_undo 7 = .ok (.ifCond .ne 6, 3) := by decide +kernel
theorem dX6_undo_10 : decode cX6_undo 10 = .ok (.ldc 137, 2) := by decide +kernel
theorem dX6_undo_12 : decode cX6_undo 12 = .ok (.ireturn, 1) := by decide +kernel
theorem dX6_undo_13 : decode cX6_undo 13 = .ok (.aload_n 0, 1) := by decide +kernel
theorem dX6_undo_14 : decode cX6_undo 14 = .ok (.getfield 35, 3) := by decide +kernel
theorem dX6_undo_17 : decode cX6_undo 17 = .ok (.aload_n 0, 1) := by decide +kernel
theorem dX6_undo_18 : decode cX6_undo 18 = .ok (.getfield 25, 3) := by decide +kernel
theorem dX6_undo_21 : decode cX6_undo 21 = .ok (.invokevirtual 186, 3) := by decide +kernel
theorem dX6_undo_24 : decode cX6_undo 24 = .ok (.aload_n 0, 1) := by decide +kernel
theorem dX6_undo_25 : decode cX6_undo 25 = .ok (.getfield 35, 3) := by decide +kernel
theorem dX6_undo_28 : decode cX6_undo 28 = .ok (.getfield 183, 3) := by decide +kernel
theorem dX6_undo_31 : decode cX6_undo 31 = .ok (.ireturn, 1) := by decide +kernel
theorem dX6_bar_0 : decode cX6_bar 0 = .ok (.aload_n 0, 1) := by decide +kernel
theorem dX6_bar_1 : decode cX6_bar 1 = .ok (.getfield 25, 3) := by decide +kernel
theorem dX6_bar_4 : decode cX6_bar 4 = .ok (.iload_n 1, 1) := by decide +kernel
theorem dX6_bar_5 : decode cX6_bar 5 = .ok (.invokevirtual 151, 3) := by decide +kernel
theorem dX6_bar_8 : decode cX6_bar 8 = .ok (.ifCond .ne 6, 3) := by decide +kernel
theorem dX6_bar_11 : decode cX6_bar 11 = .ok (.ldc 66, 2) := by decide +kernel
theorem dX6_bar_13 : decode cX6_bar 13 = .ok (.ireturn, 1) := by decide +kernel
theorem dX6_bar_14 : decode cX6_bar 14 = .ok (.iload_n 2, 1) := by decide +kernel
theorem dX6_bar_15 : decode cX6_bar 15 = .ok (.tableswitch 120 0 5 #[37, 47, 57, 67, 93, 110], 37) := by decide +kernel
theorem dX6_bar_52 : decode cX6_bar 52 = .ok (.aload_n 0, 1) := by decide +kernel
theorem dX6_bar_53 : decode cX6_bar 53 = .ok (.getfield 25, 3) := by decide +kernel
theorem dX6_bar_56 : decode cX6_bar 56 = .ok (.getfield 189, 3) := by decide +kernel
theorem dX6_bar_59 : decode cX6_bar 59 = .ok (.iload_n 1, 1) := by decide +kernel
theorem dX6_bar_60 : decode cX6_bar 60 = .ok (.iaload, 1) := by decide +kernel
theorem dX6_bar_61 : decode cX6_bar 61 = .ok (.ireturn, 1) := by decide +kernel
theorem dX6_bar_62 : decode cX6_bar 62 = .ok (.aload_n 0, 1) := by decide +kernel
theorem dX6_bar_63 : decode cX6_bar 63 = .ok (.getfield 25, 3) := by decide +kernel
theorem dX6_bar_66 : decode cX6_bar 66 = .ok (.getfield 180, 3) := by decide +kernel
theorem dX6_bar_69 : decode cX6_bar 69 = .ok (.iload_n 1, 1) := by decide +kernel
theorem dX6_bar_70 : decode cX6_bar 70 = .ok (.iaload, 1) := by decide +kernel
theorem dX6_bar_71 : decode cX6_bar 71 = .ok (.ireturn, 1) := by decide +kernel
theorem dX6_bar_72 : decode cX6_bar 72 = .ok (.aload_n 0, 1) := by decide +kernel
theorem dX6_bar_73 : decode cX6_bar 73 = .ok (.getfield 25, 3) := by decide +kernel
theorem dX6_bar_76 : decode cX6_bar 76 = .ok (.getfield 192, 3) := by decide +kernel
theorem dX6_bar_79 : decode cX6_bar 79 = .ok (.iload_n 1, 1) := by decide +kernel
theorem dX6_bar_80 : decode cX6_bar 80 = .ok (.iaload, 1) := by decide +kernel
theorem dX6_bar_81 : decode cX6_bar 81 = .ok (.ireturn, 1) := by decide +kernel
theorem dX6_bar_82 : decode cX6_bar 82 = .ok (.aload_n 0, 1) := by decide +kernel
theorem dX6_bar_83 : decode cX6_bar 83 = .ok (.getfield 25, 3) := by decide +kernel
theorem dX6_bar_86 : decode cX6_bar 86 = .ok (.iload_n 1, 1) := by decide +kernel
theorem dX6_bar_87 : decode cX6_bar 87 = .ok (.invokevirtual 195, 3) := by decide +kernel
theorem dX6_bar_90 : decode cX6_bar 90 = .ok (.ifCond .eq 15, 3) := by decide +kernel
theorem dX6_bar_93 : decode cX6_bar 93 = .ok (.aload_n 0, 1) := by decide +kernel
theorem dX6_bar_94 : decode cX6_bar 94 = .ok (.getfield 25, 3) := by decide +kernel
theorem dX6_bar_97 : decode cX6_bar 97 = .ok (.getfield 198, 3) := by decide +kernel
theorem dX6_bar_100 : decode cX6_bar 100 = .ok (.iload_n 1, 1) := by decide +kernel
theorem dX6_bar_101 : decode cX6_bar 101 = .ok (.iaload, 1) := by decide +kernel
theorem dX6_bar_102 : decode cX6_bar 102 = .ok (.goto 5, 3) := by decide +kernel
theorem dX6_bar_105 : decode cX6_bar 105 = .ok (.ldc 201, 2) := by decide +kernel
theorem dX6_bar_107 : decode cX6_bar 107 = .ok (.ireturn, 1) := by decide +kernel
theorem dX6_bar_108 : decode cX6_bar 108 = .ok (.aload_n 0, 1) := by decide +kernel
theorem dX6_bar_109 : decode cX6_bar 109 = .ok (.getfield 25, 3) := by decide +kernel
theorem dX6_bar_112 : decode cX6_bar 112 = .ok (.iload_n 1, 1) := by decide +kernel
theorem dX6_bar_113 : decode cX6_bar 113 = .ok (.invokevirtual 202, 3) := by decide +kernel
theorem dX6_bar_116 : decode cX6_bar 116 = .ok (.ifCond .eq 7, 3) := by decide +kernel
theorem dX6_bar_119 : decode cX6_bar 119 = .ok (.iconst 1, 1) := by decide +kernel
theorem dX6_bar_120 : decode cX6_bar 120 = .ok (.goto 4, 3) := by decide +kernel
theorem dX6_bar_123 : decode cX6_bar 123 = .ok (.iconst 0, 1) := by decide +kernel
theorem dX6_bar_124 : decode cX6_bar 124 = .ok (.ireturn, 1) := by decide +kernel
theorem dX6_bar_125 : decode cX6_bar 125 = .ok (.aload_n 0, 1) := by decide +kernel
theorem dX6_bar_126 : decode cX6_bar 126 = .ok (.getfield 25, 3) := by decide +kernel
theorem dX6_bar_129 : decode cX6_bar 129 = .ok (.getfield 205, 3) := by decide +kernel
theorem dX6_bar_132 : decode cX6_bar 132 = .ok (.iload_n 1, 1) := by decide +kernel
theorem dX6_bar_133 : decode cX6_bar 133 = .ok (.iaload, 1) := by decide +kernel
theorem dX6_bar_134 : decode cX6_bar 134 = .ok (.ireturn, 1) := by decide +kernel
theorem dX6_bar_135 : decode cX6_bar 135 = .ok (.ldc 66, 2) := by decide +kernel
theorem dX6_bar_137 : decode cX6_bar 137 = .ok (.ireturn, 1) := by decide +kernel
theorem dX6_paper_0 : decode cX6_paper 0 = .ok (.iload_n 1, 1) := by decide +kernel
theorem dX6_paper_1 : decode cX6_paper 1 = .ok (.iconst 0, 1) := by decide +kernel
theorem dX6_paper_2 : decode cX6_paper 2 = .ok (.bipush 19, 2) := by decide +kernel
theorem dX6_paper_4 : decode cX6_paper 4 = .ok (.invokestatic 62, 3) := by decide +kernel
theorem dX6_paper_7 : decode cX6_paper 7 = .ok (.ifCond .ne 6, 3) := by decide +kernel
theorem dX6_paper_10 : decode cX6_paper 10 = .ok (.ldc 66, 2) := by decide +kernel
theorem dX6_paper_12 : decode cX6_paper 12 = .ok (.ireturn, 1) := by decide +kernel
theorem dX6_paper_13 : decode cX6_paper 13 = .ok (.aload_n 0, 1) := by decide +kernel
theorem dX6_paper_14 : decode cX6_paper 14 = .ok (.getfield 25, 3) := by decide +kernel
theorem dX6_paper_17 : decode cX6_paper 17 = .ok (.getfield 208, 3) := by decide +kernel
theorem dX6_paper_20 : decode cX6_paper 20 = .ok (.iload_n 1, 1) := by decide +kernel
theorem dX6_paper_21 : decode cX6_paper 21 = .ok (.iaload, 1) := by decide +kernel
theorem dX6_paper_22 : decode cX6_paper 22 = .ok (.istore_n 2, 1) := by decide +kernel
theorem dX6_paper_23 : decode cX6_paper 23 = .ok (.iload_n 2, 1) := by decide +kernel
theorem dX6_paper_24 : decode cX6_paper 24 = .ok (.ifCond .ne 8, 3) := by decide +kernel
theorem dX6_paper_27 : decode cX6_paper 27 = .ok (.ldc 201, 2) := by decide +kernel
theorem dX6_paper_29 : decode cX6_paper 29 = .ok (.goto 6, 3) := by decide +kernel
theorem dX6_paper_32 : decode cX6_paper 32 = .ok (.iload_n 2, 1) := by decide +kernel
theorem dX6_paper_33 : decode cX6_paper 33 = .ok (.iconst 1, 1) := by decide +kernel
theorem dX6_paper_34 : decode cX6_paper 34 = .ok (.isub, 1) := by decide +kernel
theorem dX6_paper_35 : decode cX6_paper 35 = .ok (.ireturn, 1) := by decide +kernel
theorem dX6_height_0 : decode cX6_height 0 = .ok (.aload_n 0, 1) := by decide +kernel
theorem dX6_height_1 : decode cX6_height 1 = .ok (.getfield 25, 3) := by decide +kernel
theorem dX6_height_4 : decode cX6_height 4 = .ok (.iload_n 1, 1) := by decide +kernel
theorem dX6_height_5 : decode cX6_height 5 = .ok (.invokevirtual 151, 3) := by decide +kernel
theorem dX6_height_8 : decode cX6_height 8 = .ok (.ifCond .eq 13, 3) := by decide +kernel
theorem dX6_height_11 : decode cX6_height 11 = .ok (.iload_n 2, 1) := by decide +kernel
theorem dX6_height_12 : decode cX6_height 12 = .ok (.iconst 0, 1) := by decide +kernel
theorem dX6_height_13 : decode cX6_height 13 = .ok (.bipush 60, 2) := by decide +kernel
theorem dX6_height_15 : decode cX6_height 15 = .ok (.invokestatic 62, 3) := by decide +kernel
theorem dX6_height_18 : decode cX6_height 18 = .ok (.ifCond .ne 6, 3) := by decide +kernel
theorem dX6_height_21 : decode cX6_height 21 = .ok (.ldc 66, 2) := by decide +kernel
theorem dX6_height_23 : decode cX6_height 23 = .ok (.ireturn, 1) := by decide +kernel
theorem dX6_height_24 : decode cX6_height 24 = .ok (.aload_n 0, 1) := by decide +kernel
theorem dX6_height_25 : decode cX6_height 25 = .ok (.getfield 42, 3) := by decide +kernel
theorem dX6_height_28 : decode cX6_height 28 = .ok (.aload_n 0, 1) := by decide +kernel
theorem dX6_height_29 : decode cX6_height 29 = .ok (.getfield 25, 3) := by decide +kernel
theorem dX6_height_32 : decode cX6_height 32 = .ok (.iload_n 2, 1) := by decide +kernel
theorem dX6_height_33 : decode cX6_height 33 = .ok (.invokevirtual 211, 3) := by decide +kernel
theorem dX6_height_36 : decode cX6_height 36 = .ok (.getfield 192, 3) := by decide +kernel
theorem dX6_height_39 : decode cX6_height 39 = .ok (.iload_n 1, 1) := by decide +kernel
theorem dX6_height_40 : decode cX6_height 40 = .ok (.iaload, 1) := by decide +kernel
theorem dX6_height_41 : decode cX6_height 41 = .ok (.ireturn, 1) := by decide +kernel
theorem dX6_later_0 : decode cX6_later 0 = .ok (.aload_n 0, 1) := by decide +kernel
theorem dX6_later_1 : decode cX6_later 1 = .ok (.getfield 25, 3) := by decide +kernel
theorem dX6_later_4 : decode cX6_later 4 = .ok (.getfield 134, 3) := by decide +kernel
theorem dX6_later_7 : decode cX6_later 7 = .ok (.ifCond .ne 6, 3) := by decide +kernel
theorem dX6_later_10 : decode cX6_later 10 = .ok (.ldc 137, 2) := by decide +kernel
theorem dX6_later_12 : decode cX6_later 12 = .ok (.ireturn, 1) := by decide +kernel
theorem dX6_later_13 : decode cX6_later 13 = .ok (.iload_n 1, 1) := by decide +kernel
theorem dX6_later_14 : decode cX6_later 14 = .ok (.iconst 0, 1) := by decide +kernel
theorem dX6_later_15 : decode cX6_later 15 = .ok (.bipush 60, 2) := by decide +kernel
theorem dX6_later_17 : decode cX6_later 17 = .ok (.invokestatic 62, 3) := by decide +kernel
theorem dX6_later_20 : decode cX6_later 20 = .ok (.ifCond .eq 12, 3) := by decide +kernel
theorem dX6_later_23 : decode cX6_later 23 = .ok (.iload_n 2, 1) := by decide +kernel
theorem dX6_later_24 : decode cX6_later 24 = .ok (.iconst 0, 1) := by decide +kernel
theorem dX6_later_25 : decode cX6_later 25 = .ok (.iconst 2, 1) := by decide +kernel
theorem dX6_later_26 : decode cX6_later 26 = .ok (.invokestatic 62, 3) := by decide +kernel
theorem dX6_later_29 : decode cX6_later 29 = .ok (.ifCond .ne 6, 3) := by decide +kernel
theorem dX6_later_32 : decode cX6_later 32 = .ok (.ldc 66, 2) := by decide +kernel
theorem dX6_later_34 : decode cX6_later 34 = .ok (.ireturn, 1) := by decide +kernel
theorem dX6_later_35 : decode cX6_later 35 = .ok (.aload_n 0, 1) := by decide +kernel
theorem dX6_later_36 : decode cX6_later 36 = .ok (.getfield 42, 3) := by decide +kernel
theorem dX6_later_39 : decode cX6_later 39 = .ok (.aload_n 0, 1) := by decide +kernel
theorem dX6_later_40 : decode cX6_later 40 = .ok (.getfield 25, 3) := by decide +kernel
theorem dX6_later_43 : decode cX6_later 43 = .ok (.iload_n 1, 1) := by decide +kernel
theorem dX6_later_44 : decode cX6_later 44 = .ok (.invokevirtual 211, 3) := by decide +kernel
theorem dX6_later_47 : decode cX6_later 47 = .ok (.astore_n 3, 1) := by decide +kernel
theorem dX6_later_48 : decode cX6_later 48 = .ok (.iload_n 2, 1) := by decide +kernel
theorem dX6_later_49 : decode cX6_later 49 = .ok (.ifCond .ne 8, 3) := by decide +kernel
theorem dX6_later_52 : decode cX6_later 52 = .ok (.aload_n 3, 1) := by decide +kernel
theorem dX6_later_53 : decode cX6_later 53 = .ok (.getfield 148, 3) := by decide +kernel
theorem dX6_later_56 : decode cX6_later 56 = .ok (.ireturn, 1) := by decide +kernel
theorem dX6_later_57 : decode cX6_later 57 = .ok (.iload_n 2, 1) := by decide +kernel
theorem dX6_later_58 : decode cX6_later 58 = .ok (.iconst 1, 1) := by decide +kernel
theorem dX6_later_59 : decode cX6_later 59 = .ok (.if_icmp .ne 10, 3) := by decide +kernel
theorem dX6_later_62 : decode cX6_later 62 = .ok (.aload_n 3, 1) := by decide +kernel
theorem dX6_later_63 : decode cX6_later 63 = .ok (.getfield 160, 3) := by decide +kernel
theorem dX6_later_66 : decode cX6_later 66 = .ok (.goto 7, 3) := by decide +kernel
theorem dX6_later_69 : decode cX6_later 69 = .ok (.aload_n 3, 1) := by decide +kernel
theorem dX6_later_70 : decode cX6_later 70 = .ok (.getfield 171, 3) := by decide +kernel
theorem dX6_later_73 : decode cX6_later 73 = .ok (.ireturn, 1) := by decide +kernel
theorem dX6_jam_0 : decode cX6_jam 0 = .ok (.aload_n 0, 1) := by decide +kernel
theorem dX6_jam_1 : decode cX6_jam 1 = .ok (.getfield 25, 3) := by decide +kernel
theorem dX6_jam_4 : decode cX6_jam 4 = .ok (.getfield 134, 3) := by decide +kernel
theorem dX6_jam_7 : decode cX6_jam 7 = .ok (.ifCond .ne 6, 3) := by decide +kernel
theorem dX6_jam_10 : decode cX6_jam 10 = .ok (.ldc 137, 2) := by decide +kernel
theorem dX6_jam_12 : decode cX6_jam 12 = .ok (.ireturn, 1) := by decide +kernel
theorem dX6_jam_13 : decode cX6_jam 13 = .ok (.iload_n 1, 1) := by decide +kernel
theorem dX6_jam_14 : decode cX6_jam 14 = .ok (.iconst 0, 1) := by decide +kernel
theorem dX6_jam_15 : decode cX6_jam 15 = .ok (.iconst 1, 1) := by decide +kernel
theorem dX6_jam_16 : decode cX6_jam 16 = .ok (.invokestatic 62, 3) := by decide +kernel
theorem dX6_jam_19 : decode cX6_jam 19 = .ok (.ifCond .ne 6, 3) := by decide +kernel
theorem dX6_jam_22 : decode cX6_jam 22 = .ok (.ldc 66, 2) := by decide +kernel
theorem dX6_jam_24 : decode cX6_jam 24 = .ok (.ireturn, 1) := by decide +kernel
theorem dX6_jam_25 : decode cX6_jam 25 = .ok (.aload_n 0, 1) := by decide +kernel
theorem dX6_jam_26 : decode cX6_jam 26 = .ok (.getfield 42, 3) := by decide +kernel
theorem dX6_jam_29 : decode cX6_jam 29 = .ok (.aload_n 0, 1) := by decide +kernel
theorem dX6_jam_30 : decode cX6_jam 30 = .ok (.getfield 25, 3) := by decide +kernel
theorem dX6_jam_33 : decode cX6_jam 33 = .ok (.invokevirtual 215, 3) := by decide +kernel
theorem dX6_jam_36 : decode cX6_jam 36 = .ok (.istore_n 2, 1) := by decide +kernel
theorem dX6_jam_37 : decode cX6_jam 37 = .ok (.iload_n 2, 1) := by decide +kernel
theorem dX6_jam_38 : decode cX6_jam 38 = .ok (.ldc 201, 2) := by decide +kernel
theorem dX6_jam_40 : decode cX6_jam 40 = .ok (.if_icmp .eq 7, 3) := by decide +kernel
theorem dX6_jam_43 : decode cX6_jam 43 = .ok (.iload_n 1, 1) := by decide +kernel
theorem dX6_jam_44 : decode cX6_jam 44 = .ok (.ifCond .ne 7, 3) := by decide +kernel
theorem dX6_jam_47 : decode cX6_jam 47 = .ok (.iload_n 2, 1) := by decide +kernel
theorem dX6_jam_48 : decode cX6_jam 48 = .ok (.goto 13, 3) := by decide +kernel
theorem dX6_jam_51 : decode cX6_jam 51 = .ok (.aload_n 0, 1) := by decide +kernel
theorem dX6_jam_52 : decode cX6_jam 52 = .ok (.getfield 42, 3) := by decide +kernel
theorem dX6_jam_55 : decode cX6_jam 55 = .ok (.getfield 218, 3) := by decide +kernel
theorem dX6_jam_58 : decode cX6_jam 58 = .ok (.getfield 148, 3) := by decide +kernel
theorem dX6_jam_61 : decode cX6_jam 61 = .ok (.ireturn, 1) := by decide +kernel
theorem dX6_waits_0 : decode cX6_waits 0 = .ok (.aload_n 0, 1) := by decide +kernel
theorem dX6_waits_1 : decode cX6_waits 1 = .ok (.getfield 25, 3) := by decide +kernel
theorem dX6_waits_4 : decode cX6_waits 4 = .ok (.iload_n 1, 1) := by decide +kernel
theorem dX6_waits_5 : decode cX6_waits 5 = .ok (.invokevirtual 151, 3) := by decide +kernel
theorem dX6_waits_8 : decode cX6_waits 8 = .ok (.ifCond .ne 6, 3) := by decide +kernel
theorem dX6_waits_11 : decode cX6_waits 11 = .ok (.ldc 66, 2) := by decide +kernel
theorem dX6_waits_13 : decode cX6_waits 13 = .ok (.ireturn, 1) := by decide +kernel
theorem dX6_waits_14 : decode cX6_waits 14 = .ok (.aload_n 0, 1) := by decide +kernel
theorem dX6_waits_15 : decode cX6_waits 15 = .ok (.getfield 42, 3) := by decide +kernel
theorem dX6_waits_18 : decode cX6_waits 18 = .ok (.aload_n 0, 1) := by decide +kernel
theorem dX6_waits_19 : decode cX6_waits 19 = .ok (.getfield 25, 3) := by decide +kernel
theorem dX6_waits_22 : decode cX6_waits 22 = .ok (.iload_n 1, 1) := by decide +kernel
theorem dX6_waits_23 : decode cX6_waits 23 = .ok (.invokevirtual 221, 3) := by decide +kernel
theorem dX6_waits_26 : decode cX6_waits 26 = .ok (.ireturn, 1) := by decide +kernel
theorem dX6_pace_0 : decode cX6_pace 0 = .ok (.iload_n 1, 1) := by decide +kernel
theorem dX6_pace_1 : decode cX6_pace 1 = .ok (.invokestatic 58, 3) := by decide +kernel
theorem dX6_pace_4 : decode cX6_pace 4 = .ok (.ifCond .eq 13, 3) := by decide +kernel
theorem dX6_pace_7 : decode cX6_pace 7 = .ok (.iload_n 3, 1) := by decide +kernel
theorem dX6_pace_8 : decode cX6_pace 8 = .ok (.iconst 1, 1) := by decide +kernel
theorem dX6_pace_9 : decode cX6_pace 9 = .ok (.bipush 12, 2) := by decide +kernel
theorem dX6_pace_11 : decode cX6_pace 11 = .ok (.invokestatic 62, 3) := by decide +kernel
theorem dX6_pace_14 : decode cX6_pace 14 = .ok (.ifCond .ne 6, 3) := by decide +kernel
theorem dX6_pace_17 : decode cX6_pace 17 = .ok (.ldc 66, 2) := by decide +kernel
theorem dX6_pace_19 : decode cX6_pace 19 = .ok (.ireturn, 1) := by decide +kernel
theorem dX6_pace_20 : decode cX6_pace 20 = .ok (.aload_n 0, 1) := by decide +kernel
theorem dX6_pace_21 : decode cX6_pace 21 = .ok (.getfield 25, 3) := by decide +kernel
theorem dX6_pace_24 : decode cX6_pace 24 = .ok (.getfield 134, 3) := by decide +kernel
theorem dX6_pace_27 : decode cX6_pace 27 = .ok (.ifCond .ne 6, 3) := by decide +kernel
theorem dX6_pace_30 : decode cX6_pace 30 = .ok (.ldc 137, 2) := by decide +kernel
theorem dX6_pace_32 : decode cX6_pace 32 = .ok (.ireturn, 1) := by decide +kernel
theorem dX6_pace_33 : decode cX6_pace 33 = .ok (.aload_n 0, 1) := by decide +kernel
theorem dX6_pace_34 : decode cX6_pace 34 = .ok (.iload_n 1, 1) := by decide +kernel
theorem dX6_pace_35 : decode cX6_pace 35 = .ok (.iload_n 2, 1) := by decide +kernel
theorem dX6_pace_36 : decode cX6_pace 36 = .ok (.iload_n 3, 1) := by decide +kernel
theorem dX6_pace_37 : decode cX6_pace 37 = .ok (.invokevirtual 78, 3) := by decide +kernel
theorem dX6_pace_40 : decode cX6_pace 40 = .ok (.istore 4, 2) := by decide +kernel
theorem dX6_pace_42 : decode cX6_pace 42 = .ok (.iload 4, 2) := by decide +kernel
theorem dX6_pace_44 : decode cX6_pace 44 = .ok (.ifCond .eq 10, 3) := by decide +kernel
theorem dX6_pace_47 : decode cX6_pace 47 = .ok (.aload_n 0, 1) := by decide +kernel
theorem dX6_pace_48 : decode cX6_pace 48 = .ok (.iload 4, 2) := by decide +kernel
theorem dX6_pace_50 : decode cX6_pace 50 = .ok (.invokevirtual 67, 3) := by decide +kernel
theorem dX6_pace_53 : decode cX6_pace 53 = .ok (.ireturn, 1) := by decide +kernel
theorem dX6_pace_54 : decode cX6_pace 54 = .ok (.aload_n 0, 1) := by decide +kernel
theorem dX6_pace_55 : decode cX6_pace 55 = .ok (.getfield 42, 3) := by decide +kernel
theorem dX6_pace_58 : decode cX6_pace 58 = .ok (.aload_n 0, 1) := by decide +kernel
theorem dX6_pace_59 : decode cX6_pace 59 = .ok (.getfield 11, 3) := by decide +kernel
theorem dX6_pace_62 : decode cX6_pace 62 = .ok (.iload_n 1, 1) := by decide +kernel
theorem dX6_pace_63 : decode cX6_pace 63 = .ok (.aaload, 1) := by decide +kernel
theorem dX6_pace_64 : decode cX6_pace 64 = .ok (.iload_n 2, 1) := by decide +kernel
theorem dX6_pace_65 : decode cX6_pace 65 = .ok (.iload_n 3, 1) := by decide +kernel
theorem dX6_pace_66 : decode cX6_pace 66 = .ok (.invokevirtual 225, 3) := by decide +kernel
theorem dX6_pace_69 : decode cX6_pace 69 = .ok (.aload_n 0, 1) := by decide +kernel
theorem dX6_pace_70 : decode cX6_pace 70 = .ok (.aload_n 0, 1) := by decide +kernel
theorem dX6_pace_71 : decode cX6_pace 71 = .ok (.getfield 42, 3) := by decide +kernel
theorem dX6_pace_74 : decode cX6_pace 74 = .ok (.aload_n 0, 1) := by decide +kernel
theorem dX6_pace_75 : decode cX6_pace 75 = .ok (.getfield 25, 3) := by decide +kernel
theorem dX6_pace_78 : decode cX6_pace 78 = .ok (.invokevirtual 229, 3) := by decide +kernel
theorem dX6_pace_81 : decode cX6_pace 81 = .ok (.invokevirtual 75, 3) := by decide +kernel
theorem dX6_pace_84 : decode cX6_pace 84 = .ok (.ireturn, 1) := by decide +kernel
theorem dX6_better_0 : decode cX6_better 0 = .ok (.iload_n 1, 1) := by decide +kernel
theorem dX6_better_1 : decode cX6_better 1 = .ok (.invokestatic 58, 3) := by decide +kernel
theorem dX6_better_4 : decode cX6_better 4 = .ok (.ifCond .eq 23, 3) := by decide +kernel
theorem dX6_better_7 : decode cX6_better 7 = .ok (.iload_n 3, 1) := by decide +kernel
theorem dX6_better_8 : decode cX6_better 8 = .ok (.iconst 1, 1) := by decide +kernel
theorem dX6_better_9 : decode cX6_better 9 = .ok (.bipush 12, 2) := by decide +kernel
theorem dX6_better_11 : decode cX6_better 11 = .ok (.invokestatic 62, 3) := by decide +kernel
theorem dX6_better_14 : decode cX6_better 14 = .ok (.ifCond .eq 13, 3) := by decide +kernel
theorem dX6_better_17 : decode cX6_better 17 = .ok (.iload 4, 2) := by decide +kernel
theorem dX6_better_19 : decode cX6_better 19 = .ok (.iconst 0, 1) := by decide +kernel
theorem dX6_better_20 : decode cX6_better 20 = .ok (.iconst 1, 1) := by decide +kernel
theorem dX6_better_21 : decode cX6_better 21 = .ok (.invokestatic 62, 3) := by decide +kernel
theorem dX6_better_24 : decode cX6_better 24 = .ok (.ifCond .ne 6, 3) := by decide +kernel
theorem dX6_better_27 : decode cX6_better 27 = .ok (.ldc 66, 2) := by decide +kernel
theorem dX6_better_29 : decode cX6_better 29 = .ok (.ireturn, 1) := by decide +kernel
theorem dX6_better_30 : decode cX6_better 30 = .ok (.aload_n 0, 1) := by decide +kernel
theorem dX6_better_31 : decode cX6_better 31 = .ok (.getfield 25, 3) := by decide +kernel
theorem dX6_better_34 : decode cX6_better 34 = .ok (.getfield 134, 3) := by decide +kernel
theorem dX6_better_37 : decode cX6_better 37 = .ok (.ifCond .ne 6, 3) := by decide +kernel
theorem dX6_better_40 : decode cX6_better 40 = .ok (.ldc 137, 2) := by decide +kernel
theorem dX6_better_42 : decode cX6_better 42 = .ok (.ireturn, 1) := by decide +kernel
theorem dX6_better_43 : decode cX6_better 43 = .ok (.aload_n 0, 1) := by decide +kernel
theorem dX6_better_44 : decode cX6_better 44 = .ok (.iload_n 1, 1) := by decide +kernel
theorem dX6_better_45 : decode cX6_better 45 = .ok (.iload_n 2, 1) := by decide +kernel
theorem dX6_better_46 : decode cX6_better 46 = .ok (.iload_n 3, 1) := by decide +kernel
theorem dX6_better_47 : decode cX6_better 47 = .ok (.invokevirtual 78, 3) := by decide +kernel
theorem dX6_better_50 : decode cX6_better 50 = .ok (.istore 5, 2) := by decide +kernel
theorem dX6_better_52 : decode cX6_better 52 = .ok (.iload 5, 2) := by decide +kernel
theorem dX6_better_54 : decode cX6_better 54 = .ok (.ifCond .eq 10, 3) := by decide +kernel
theorem dX6_better_57 : decode cX6_better 57 = .ok (.aload_n 0, 1) := by decide +kernel
theorem dX6_better_58 : decode cX6_better 58 = .ok (.iload 5, 2) := by decide +kernel
theorem dX6_better_60 : decode cX6_better 60 = .ok (.invokevirtual 67, 3) := by decide +kernel
theorem dX6_better_63 : decode cX6_better 63 = .ok (.ireturn, 1) := by decide +kernel
theorem dX6_better_64 : decode cX6_better 64 = .ok (.aload_n 0, 1) := by decide +kernel
theorem dX6_better_65 : decode cX6_better 65 = .ok (.getfield 42, 3) := by decide +kernel
theorem dX6_better_68 : decode cX6_better 68 = .ok (.aload_n 0, 1) := by decide +kernel
theorem dX6_better_69 : decode cX6_better 69 = .ok (.getfield 11, 3) := by decide +kernel
theorem dX6_better_72 : decode cX6_better 72 = .ok (.iload_n 1, 1) := by decide +kernel
theorem dX6_better_73 : decode cX6_better 73 = .ok (.aaload, 1) := by decide +kernel
theorem dX6_better_74 : decode cX6_better 74 = .ok (.iload_n 2, 1) := by decide +kernel
theorem dX6_better_75 : decode cX6_better 75 = .ok (.iload_n 3, 1) := by decide +kernel
theorem dX6_better_76 : decode cX6_better 76 = .ok (.invokevirtual 225, 3) := by decide +kernel
theorem dX6_better_79 : decode cX6_better 79 = .ok (.aload_n 0, 1) := by decide +kernel
theorem dX6_better_80 : decode cX6_better 80 = .ok (.getfield 42, 3) := by decide +kernel
theorem dX6_better_83 : decode cX6_better 83 = .ok (.aload_n 0, 1) := by decide +kernel
theorem dX6_better_84 : decode cX6_better 84 = .ok (.getfield 25, 3) := by decide +kernel
theorem dX6_better_87 : decode cX6_better 87 = .ok (.invokevirtual 232, 3) := by decide +kernel
theorem dX6_better_90 : decode cX6_better 90 = .ok (.istore 6, 2) := by decide +kernel
theorem dX6_better_92 : decode cX6_better 92 = .ok (.aload_n 0, 1) := by decide +kernel
theorem dX6_better_93 : decode cX6_better 93 = .ok (.iload 6, 2) := by decide +kernel
theorem dX6_better_95 : decode cX6_better 95 = .ok (.ldc 201, 2) := by decide +kernel
theorem dX6_better_97 : decode cX6_better 97 = .ok (.if_icmp .eq 8, 3) := by decide +kernel
theorem dX6_better_100 : decode cX6_better 100 = .ok (.iload 4, 2) := by decide +kernel
theorem dX6_better_102 : decode cX6_better 102 = .ok (.ifCond .ne 8, 3) := by decide +kernel
theorem dX6_better_105 : decode cX6_better 105 = .ok (.iload 6, 2) := by decide +kernel
theorem dX6_better_107 : decode cX6_better 107 = .ok (.goto 10, 3) := by decide +kernel
theorem dX6_better_110 : decode cX6_better 110 = .ok (.aload_n 0, 1) := by decide +kernel
theorem dX6_better_111 : decode cX6_better 111 = .ok (.getfield 42, 3) := by decide +kernel
theorem dX6_better_114 : decode cX6_better 114 = .ok (.getfield 235, 3) := by decide +kernel
theorem dX6_better_117 : decode cX6_better 117 = .ok (.invokevirtual 75, 3) := by decide +kernel
theorem dX6_better_120 : decode cX6_better 120 = .ok (.ireturn, 1) := by decide +kernel
theorem dX6_fits_0 : decode cX6_fits 0 = .ok (.aload_n 0, 1) := by decide +kernel
theorem dX6_fits_1 : decode cX6_fits 1 = .ok (.getfield 25, 3) := by decide +kernel
theorem dX6_fits_4 : decode cX6_fits 4 = .ok (.iload_n 1, 1) := by decide +kernel
theorem dX6_fits_5 : decode cX6_fits 5 = .ok (.invokevirtual 151, 3) := by decide +kernel
theorem dX6_fits_8 : decode cX6_fits 8 = .ok (.ifCond .eq 31, 3) := by decide +kernel
theorem dX6_fits_11 : decode cX6_fits 11 = .ok (.iload_n 2, 1) := by decide +kernel
theorem dX6_fits_12 : decode cX6_fits 12 = .ok (.invokestatic 58, 3) := by decide +kernel
theorem dX6_fits_15 : decode cX6_fits 15 = .ok (.ifCond .eq 24, 3) := by decide +kernel
theorem dX6_fits_18 : decode cX6_fits 18 = .ok (.iload 4, 2) := by decide +kernel
theorem dX6_fits_20 : decode cX6_fits 20 = .ok (.iconst 1, 1) := by decide +kernel
theorem dX6_fits_21 : decode cX6_fits 21 = .ok (.bipush 12, 2) := by decide +kernel
theorem dX6_fits_23 : decode cX6_fits 23 = .ok (.invokestatic 62, 3) := by decide +kernel
theorem dX6_fits_26 : decode cX6_fits 26 = .ok (.ifCond .eq 13, 3) := by decide +kernel
theorem dX6_fits_29 : decode cX6_fits 29 = .ok (.iload 5, 2) := by decide +kernel
theorem dX6_fits_31 : decode cX6_fits 31 = .ok (.iconst 0, 1) := by decide +kernel
theorem dX6_fits_32 : decode cX6_fits 32 = .ok (.iconst 3, 1) := by decide +kernel
theorem dX6_fits_33 : decode cX6_fits 33 = .ok (.invokestatic 62, 3) := by decide +kernel
theorem dX6_fits_36 : decode cX6_fits 36 = .ok (.ifCond .ne 6, 3) := by decide +kernel
theorem dX6_fits_39 : decode cX6_fits 39 = .ok (.ldc 66, 2) := by decide +kernel
theorem dX6_fits_41 : decode cX6_fits 41 = .ok (.ireturn, 1) := by decide +kernel
theorem dX6_fits_42 : decode cX6_fits 42 = .ok (.aload_n 0, 1) := by decide +kernel
theorem dX6_fits_43 : decode cX6_fits 43 = .ok (.iload_n 2, 1) := by decide +kernel
theorem dX6_fits_44 : decode cX6_fits 44 = .ok (.iload_n 3, 1) := by decide +kernel
theorem dX6_fits_45 : decode cX6_fits 45 = .ok (.iload 4, 2) := by decide +kernel
theorem dX6_fits_47 : decode cX6_fits 47 = .ok (.invokevirtual 78, 3) := by decide +kernel
theorem dX6_fits_50 : decode cX6_fits 50 = .ok (.istore 6, 2) := by decide +kernel
theorem dX6_fits_52 : decode cX6_fits 52 = .ok (.iload 6, 2) := by decide +kernel
theorem dX6_fits_54 : decode cX6_fits 54 = .ok (.ifCond .eq 10, 3) := by decide +kernel
theorem dX6_fits_57 : decode cX6_fits 57 = .ok (.aload_n 0, 1) := by decide +kernel
theorem dX6_fits_58 : decode cX6_fits 58 = .ok (.iload 6, 2) := by decide +kernel
theorem dX6_fits_60 : decode cX6_fits 60 = .ok (.invokevirtual 67, 3) := by decide +kernel
theorem dX6_fits_63 : decode cX6_fits 63 = .ok (.ireturn, 1) := by decide +kernel
theorem dX6_fits_64 : decode cX6_fits 64 = .ok (.aload_n 0, 1) := by decide +kernel
theorem dX6_fits_65 : decode cX6_fits 65 = .ok (.getfield 42, 3) := by decide +kernel
theorem dX6_fits_68 : decode cX6_fits 68 = .ok (.aload_n 0, 1) := by decide +kernel
theorem dX6_fits_69 : decode cX6_fits 69 = .ok (.getfield 11, 3) := by decide +kernel
theorem dX6_fits_72 : decode cX6_fits 72 = .ok (.iload_n 2, 1) := by decide +kernel
theorem dX6_fits_73 : decode cX6_fits 73 = .ok (.aaload, 1) := by decide +kernel
theorem dX6_fits_74 : decode cX6_fits 74 = .ok (.iload_n 3, 1) := by decide +kernel
theorem dX6_fits_75 : decode cX6_fits 75 = .ok (.iload 4, 2) := by decide +kernel
theorem dX6_fits_77 : decode cX6_fits 77 = .ok (.invokevirtual 225, 3) := by decide +kernel
theorem dX6_fits_80 : decode cX6_fits 80 = .ok (.aload_n 0, 1) := by decide +kernel
theorem dX6_fits_81 : decode cX6_fits 81 = .ok (.aload_n 0, 1) := by decide +kernel
theorem dX6_fits_82 : decode cX6_fits 82 = .ok (.getfield 42, 3) := by decide +kernel
theorem dX6_fits_85 : decode cX6_fits 85 = .ok (.aload_n 0, 1) := by decide +kernel
theorem dX6_fits_86 : decode cX6_fits 86 = .ok (.getfield 25, 3) := by decide +kernel
theorem dX6_fits_89 : decode cX6_fits 89 = .ok (.iload_n 1, 1) := by decide +kernel
theorem dX6_fits_90 : decode cX6_fits 90 = .ok (.iload 5, 2) := by decide +kernel
theorem dX6_fits_92 : decode cX6_fits 92 = .ok (.invokevirtual 238, 3) := by decide +kernel
theorem dX6_fits_95 : decode cX6_fits 95 = .ok (.invokevirtual 75, 3) := by decide +kernel
theorem dX6_fits_98 : decode cX6_fits 98 = .ok (.ireturn, 1) := by decide +kernel
theorem dX6_chance_0 : decode cX6_chance 0 = .ok (.aload_n 0, 1) := by decide +kernel
theorem dX6_chance_1 : decode cX6_chance 1 = .ok (.getfield 25, 3) := by decide +kernel
theorem dX6_chance_4 : decode cX6_chance 4 = .ok (.getfield 134, 3) := by decide +kernel
theorem dX6_chance_7 : decode cX6_chance 7 = .ok (.ifCond .ne 6, 3) := by decide +kernel
theorem dX6_chance_10 : decode cX6_chance 10 = .ok (.ldc 137, 2) := by decide +kernel
theorem dX6_chance_12 : decode cX6_chance 12 = .ok (.ireturn, 1) := by decide +kernel
theorem dX6_chance_13 : decode cX6_chance 13 = .ok (.iload_n 1, 1) := by decide +kernel
theorem dX6_chance_14 : decode cX6_chance 14 = .ok (.iconst 0, 1) := by decide +kernel
theorem dX6_chance_15 : decode cX6_chance 15 = .ok (.bipush 60, 2) := by decide +kernel
theorem dX6_chance_17 : decode cX6_chance 17 = .ok (.invokestatic 62, 3) := by decide +kernel
theorem dX6_chance_20 : decode cX6_chance 20 = .ok (.ifCond .eq 22, 3) := by decide +kernel
theorem dX6_chance_23 : decode cX6_chance 23 = .ok (.iload_n 2, 1) := by decide +kernel
theorem dX6_chance_24 : decode cX6_chance 24 = .ok (.iconst 0, 1) := by decide +kernel
theorem dX6_chance_25 : decode cX6_chance 25 = .ok (.bipush 10, 2) := by decide +kernel
theorem dX6_chance_27 : decode cX6_chance 27 = .ok (.invokestatic 62, 3) := by decide +kernel
theorem dX6_chance_30 : decode cX6_chance 30 = .ok (.ifCond .eq 12, 3) := by decide +kernel
theorem dX6_chance_33 : decode cX6_chance 33 = .ok (.iload_n 3, 1) := by decide +kernel
theorem dX6_chance_34 : decode cX6_chance 34 = .ok (.iconst 0, 1) := by decide +kernel
theorem dX6_chance_35 : decode cX6_chance 35 = .ok (.iconst 1, 1) := by decide +kernel
theorem dX6_chance_36 : decode cX6_chance 36 = .ok (.invokestatic 62, 3) := by decide +kernel
theorem dX6_chance_39 : decode cX6_chance 39 = .ok (.ifCond .ne 6, 3) := by decide +kernel
theorem dX6_chance_42 : decode cX6_chance 42 = .ok (.ldc 66, 2) := by decide +kernel
theorem dX6_chance_44 : decode cX6_chance 44 = .ok (.ireturn, 1) := by decide +kernel
theorem dX6_chance_45 : decode cX6_chance 45 = .ok (.aload_n 0, 1) := by decide +kernel
theorem dX6_chance_46 : decode cX6_chance 46 = .ok (.getfield 42, 3) := by decide +kernel
theorem dX6_chance_49 : decode cX6_chance 49 = .ok (.aload_n 0, 1) := by decide +kernel
theorem dX6_chance_50 : decode cX6_chance 50 = .ok (.getfield 25, 3) := by decide +kernel
theorem dX6_chance_53 : decode cX6_chance 53 = .ok (.iload_n 1, 1) := by decide +kernel
theorem dX6_chance_54 : decode cX6_chance 54 = .ok (.iload_n 2, 1) := by decide +kernel
theorem dX6_chance_55 : decode cX6_chance 55 = .ok (.invokevirtual 242, 3) := by decide +kernel
theorem dX6_chance_58 : decode cX6_chance 58 = .ok (.lstore 4, 2) := by decide +kernel
theorem dX6_chance_60 : decode cX6_chance 60 = .ok (.bipush 10, 2) := by decide +kernel
theorem dX6_chance_62 : decode cX6_chance 62 = .ok (.aload_n 0, 1) := by decide +kernel
theorem dX6_chance_63 : decode cX6_chance 63 = .ok (.getfield 25, 3) := by decide +kernel
theorem dX6_chance_66 : decode cX6_chance 66 = .ok (.getfield 160, 3) := by decide +kernel
theorem dX6_chance_69 : decode cX6_chance 69 = .ok (.invokestatic 163, 3) := by decide +kernel
theorem dX6_chance_72 : decode cX6_chance 72 = .ok (.invokestatic 246, 3) := by decide +kernel
theorem dX6_chance_75 : decode cX6_chance 75 = .ok (.lstore 6, 2) := by decide +kernel
theorem dX6_chance_77 : decode cX6_chance 77 = .ok (.lload 4, 2) := by decide +kernel
theorem dX6_chance_79 : decode cX6_chance 79 = .ok (.lload 6, 2) := by decide +kernel
theorem dX6_chance_81 : decode cX6_chance 81 = .ok (.invokestatic 250, 3) := by decide +kernel
theorem dX6_chance_84 : decode cX6_chance 84 = .ok (.lstore 8, 2) := by decide +kernel
theorem dX6_chance_86 : decode cX6_chance 86 = .ok (.lload 8, 2) := by decide +kernel
theorem dX6_chance_88 : decode cX6_chance 88 = .ok (.lconst 0, 1) := by decide +kernel
theorem dX6_chance_89 : decode cX6_chance 89 = .ok (.lcmp, 1) := by decide +kernel
theorem dX6_chance_90 : decode cX6_chance 90 = .ok (.ifCond .ne 6, 3) := by decide +kernel
theorem dX6_chance_93 : decode cX6_chance 93 = .ok (.ldc 201, 2) := by decide +kernel
theorem dX6_chance_95 : decode cX6_chance 95 = .ok (.ireturn, 1) := by decide +kernel
theorem dX6_chance_96 : decode cX6_chance 96 = .ok (.iload_n 3, 1) := by decide +kernel
theorem dX6_chance_97 : decode cX6_chance 97 = .ok (.ifCond .ne 8, 3) := by decide +kernel
theorem dX6_chance_100 : decode cX6_chance 100 = .ok (.lload 4, 2) := by decide +kernel
theorem dX6_chance_102 : decode cX6_chance 102 = .ok (.goto 5, 3) := by decide +kernel
theorem dX6_chance_105 : decode cX6_chance 105 = .ok (.lload 6, 2) := by decide +kernel
theorem dX6_chance_107 : decode cX6_chance 107 = .ok (.lload 8, 2) := by decide +kernel
theorem dX6_chance_109 : decode cX6_chance 109 = .ok (.ldiv, 1) := by decide +kernel
theorem dX6_chance_110 : decode cX6_chance 110 = .ok (.l2i, 1) := by decide +kernel
theorem dX6_chance_111 : decode cX6_chance 111 = .ok (.ireturn, 1) := by decide +kernel
theorem dX6_drawn_0 : decode cX6_drawn 0 = .ok (.aload_n 0, 1) := by decide +kernel
theorem dX6_drawn_1 : decode cX6_drawn 1 = .ok (.getfield 25, 3) := by decide +kernel
theorem dX6_drawn_4 : decode cX6_drawn 4 = .ok (.getfield 134, 3) := by decide +kernel
theorem dX6_drawn_7 : decode cX6_drawn 7 = .ok (.ifCond .ne 6, 3) := by decide +kernel
theorem dX6_drawn_10 : decode cX6_drawn 10 = .ok (.ldc 137, 2) := by decide +kernel
theorem dX6_drawn_12 : decode cX6_drawn 12 = .ok (.ireturn, 1) := by decide +kernel
theorem dX6_drawn_13 : decode cX6_drawn 13 = .ok (.iload_n 1, 1) := by decide +kernel
theorem dX6_drawn_14 : decode cX6_drawn 14 = .ok (.iconst 0, 1) := by decide +kernel
theorem dX6_drawn_15 : decode cX6_drawn 15 = .ok (.bipush 60, 2) := by decide +kernel
theorem dX6_drawn_17 : decode cX6_drawn 17 = .ok (.invokestatic 62, 3) := by decide +kernel
theorem dX6_drawn_20 : decode cX6_drawn 20 = .ok (.ifCond .eq 22, 3) := by decide +kernel
theorem dX6_drawn_23 : decode cX6_drawn 23 = .ok (.iload_n 2, 1) := by decide +kernel
theorem dX6_drawn_24 : decode cX6_drawn 24 = .ok (.iconst 1, 1) := by decide +kernel
theorem dX6_drawn_25 : decode cX6_drawn 25 = .ok (.ldc 254, 2) := by decide +kernel
theorem dX6_drawn_27 : decode cX6_drawn 27 = .ok (.invokestatic 62, 3) := by decide +kernel
theorem dX6_drawn_30 : decode cX6_drawn 30 = .ok (.ifCond .eq 12, 3) := by decide +kernel
theorem dX6_drawn_33 : decode cX6_drawn 33 = .ok (.iload_n 3, 1) := by decide +kernel
theorem dX6_drawn_34 : decode cX6_drawn 34 = .ok (.iconst 0, 1) := by decide +kernel
theorem dX6_drawn_35 : decode cX6_drawn 35 = .ok (.iconst 1, 1) := by decide +kernel
theorem dX6_drawn_36 : decode cX6_drawn 36 = .ok (.invokestatic 62, 3) := by decide +kernel
theorem dX6_drawn_39 : decode cX6_drawn 39 = .ok (.ifCond .ne 6, 3) := by decide +kernel
theorem dX6_drawn_42 : decode cX6_drawn 42 = .ok (.ldc 66, 2) := by decide +kernel
theorem dX6_drawn_44 : decode cX6_drawn 44 = .ok (.ireturn, 1) := by decide +kernel
theorem dX6_drawn_45 : decode cX6_drawn 45 = .ok (.aload_n 0, 1) := by decide +kernel
theorem dX6_drawn_46 : decode cX6_drawn 46 = .ok (.getfield 42, 3) := by decide +kernel
theorem dX6_drawn_49 : decode cX6_drawn 49 = .ok (.aload_n 0, 1) := by decide +kernel
theorem dX6_drawn_50 : decode cX6_drawn 50 = .ok (.getfield 25, 3) := by decide +kernel
theorem dX6_drawn_53 : decode cX6_drawn 53 = .ok (.iload_n 1, 1) := by decide +kernel
theorem dX6_drawn_54 : decode cX6_drawn 54 = .ok (.iload_n 2, 1) := by decide +kernel
theorem dX6_drawn_55 : decode cX6_drawn 55 = .ok (.invokevirtual 255, 3) := by decide +kernel
theorem dX6_drawn_58 : decode cX6_drawn 58 = .ok (.istore 4, 2) := by decide +kernel
theorem dX6_drawn_60 : decode cX6_drawn 60 = .ok (.iload_n 3, 1) := by decide +kernel
theorem dX6_drawn_61 : decode cX6_drawn 61 = .ok (.ifCond .ne 8, 3) := by decide +kernel
theorem dX6_drawn_64 : decode cX6_drawn 64 = .ok (.iload 4, 2) := by decide +kernel
theorem dX6_drawn_66 : decode cX6_drawn 66 = .ok (.goto 16, 3) := by decide +kernel
theorem dX6_drawn_69 : decode cX6_drawn 69 = .ok (.aload_n 0, 1) := by decide +kernel
theorem dX6_drawn_70 : decode cX6_drawn 70 = .ok (.getfield 42, 3) := by decide +kernel
theorem dX6_drawn_73 : decode cX6_drawn 73 = .ok (.getfield 218, 3) := by decide +kernel
theorem dX6_drawn_76 : decode cX6_drawn 76 = .ok (.getfield 148, 3) := by decide +kernel
theorem dX6_drawn_79 : decode cX6_drawn 79 = .ok (.invokestatic 163, 3) := by decide +kernel
theorem dX6_drawn_82 : decode cX6_drawn 82 = .ok (.ireturn, 1) := by decide +kernel
theorem dX6_image_0 : decode cX6_image 0 = .ok (.iload_n 1, 1) := by decide +kernel
theorem dX6_image_1 : decode cX6_image 1 = .ok (.iconst 0, 1) := by decide +kernel
theorem dX6_image_2 : decode cX6_image 2 = .ok (.iconst 1, 1) := by decide +kernel
theorem dX6_image_3 : decode cX6_image 3 = .ok (.invokestatic 62, 3) := by decide +kernel
theorem dX6_image_6 : decode cX6_image 6 = .ok (.ifCond .ne 6, 3) := by decide +kernel
theorem dX6_image_9 : decode cX6_image 9 = .ok (.ldc 66, 2) := by decide +kernel
theorem dX6_image_11 : decode cX6_image 11 = .ok (.ireturn, 1) := by decide +kernel
theorem dX6_image_12 : decode cX6_image 12 = .ok (.aload_n 0, 1) := by decide +kernel
theorem dX6_image_13 : decode cX6_image 13 = .ok (.getfield 25, 3) := by decide +kernel
theorem dX6_image_16 : decode cX6_image 16 = .ok (.getfield 134, 3) := by decide +kernel
theorem dX6_image_19 : decode cX6_image 19 = .ok (.ifCond .ne 6, 3) := by decide +kernel
theorem dX6_image_22 : decode cX6_image 22 = .ok (.ldc 137, 2) := by decide +kernel
theorem dX6_image_24 : decode cX6_image 24 = .ok (.ireturn, 1) := by decide +kernel
theorem dX6_image_25 : decode cX6_image 25 = .ok (.aload_n 0, 1) := by decide +kernel
theorem dX6_image_26 : decode cX6_image 26 = .ok (.getfield 46, 3) := by decide +kernel
theorem dX6_image_29 : decode cX6_image 29 = .ok (.iload_n 1, 1) := by decide +kernel
theorem dX6_image_30 : decode cX6_image 30 = .ok (.aaload, 1) := by decide +kernel
theorem dX6_image_31 : decode cX6_image 31 = .ok (.aload_n 0, 1) := by decide +kernel
theorem dX6_image_32 : decode cX6_image 32 = .ok (.getfield 25, 3) := by decide +kernel
theorem dX6_image_35 : decode cX6_image 35 = .ok (.invokevirtual 127, 3) := by decide +kernel
theorem dX6_image_38 : decode cX6_image 38 = .ok (.iconst 1, 1) := by decide +kernel
theorem dX6_image_39 : decode cX6_image 39 = .ok (.ireturn, 1) := by decide +kernel
theorem dX6_restore_0 : decode cX6_restore 0 = .ok (.iload_n 1, 1) := by decide +kernel
theorem dX6_restore_1 : decode cX6_restore 1 = .ok (.iconst 0, 1) := by decide +kernel
theorem dX6_restore_2 : decode cX6_restore 2 = .ok (.iconst 1, 1) := by decide +kernel
theorem dX6_restore_3 : decode cX6_restore 3 = .ok (.invokestatic 62, 3) := by decide +kernel
theorem dX6_restore_6 : decode cX6_restore 6 = .ok (.ifCond .ne 6, 3) := by decide +kernel
theorem dX6_restore_9 : decode cX6_restore 9 = .ok (.ldc 66, 2) := by decide +kernel
theorem dX6_restore_11 : decode cX6_restore 11 = .ok (.ireturn, 1) := by decide +kernel
theorem dX6_restore_12 : decode cX6_restore 12 = .ok (.aload_n 0, 1) := by decide +kernel
theorem dX6_restore_13 : decode cX6_restore 13 = .ok (.getfield 46, 3) := by decide +kernel
theorem dX6_restore_16 : decode cX6_restore 16 = .ok (.iload_n 1, 1) := by decide +kernel
theorem dX6_restore_17 : decode cX6_restore 17 = .ok (.aaload, 1) := by decide +kernel
theorem dX6_restore_18 : decode cX6_restore 18 = .ok (.getfield 134, 3) := by decide +kernel
theorem dX6_restore_21 : decode cX6_restore 21 = .ok (.ifCond .ne 6, 3) := by decide +kernel
theorem dX6_restore_24 : decode cX6_restore 24 = .ok (.ldc 137, 2) := by decide +kernel
theorem dX6_restore_26 : decode cX6_restore 26 = .ok (.ireturn, 1) := by decide +kernel
theorem dX6_restore_27 : decode cX6_restore 27 = .ok (.aload_n 0, 1) := by decide +kernel
theorem dX6_restore_28 : decode cX6_restore 28 = .ok (.getfield 25, 3) := by decide +kernel
theorem dX6_restore_31 : decode cX6_restore 31 = .ok (.aload_n 0, 1) := by decide +kernel
theorem dX6_restore_32 : decode cX6_restore 32 = .ok (.getfield 46, 3) := by decide +kernel
theorem dX6_restore_35 : decode cX6_restore 35 = .ok (.iload_n 1, 1) := by decide +kernel
theorem dX6_restore_36 : decode cX6_restore 36 = .ok (.aaload, 1) := by decide +kernel
theorem dX6_restore_37 : decode cX6_restore 37 = .ok (.invokevirtual 127, 3) := by decide +kernel
theorem dX6_restore_40 : decode cX6_restore 40 = .ok (.aload_n 0, 1) := by decide +kernel
theorem dX6_restore_41 : decode cX6_restore 41 = .ok (.getfield 35, 3) := by decide +kernel
theorem dX6_restore_44 : decode cX6_restore 44 = .ok (.invokevirtual 131, 3) := by decide +kernel
theorem dX6_restore_47 : decode cX6_restore 47 = .ok (.iconst 1, 1) := by decide +kernel
theorem dX6_restore_48 : decode cX6_restore 48 = .ok (.ireturn, 1) := by decide +kernel
theorem dX6_kind_0 : decode cX6_kind 0 = .ok (.aload_n 0, 1) := by decide +kernel
theorem dX6_kind_1 : decode cX6_kind 1 = .ok (.getfield 25, 3) := by decide +kernel
theorem dX6_kind_4 : decode cX6_kind 4 = .ok (.iload_n 1, 1) := by decide +kernel
theorem dX6_kind_5 : decode cX6_kind 5 = .ok (.invokevirtual 151, 3) := by decide +kernel
theorem dX6_kind_8 : decode cX6_kind 8 = .ok (.ifCond .eq 15, 3) := by decide +kernel
theorem dX6_kind_11 : decode cX6_kind 11 = .ok (.aload_n 0, 1) := by decide +kernel
theorem dX6_kind_12 : decode cX6_kind 12 = .ok (.getfield 25, 3) := by decide +kernel
theorem dX6_kind_15 : decode cX6_kind 15 = .ok (.getfield 258, 3) := by decide +kernel
theorem dX6_kind_18 : decode cX6_kind 18 = .ok (.iload_n 1, 1) := by decide +kernel
theorem dX6_kind_19 : decode cX6_kind 19 = .ok (.iaload, 1) := by decide +kernel
theorem dX6_kind_20 : decode cX6_kind 20 = .ok (.goto 5, 3) := by decide +kernel
theorem dX6_kind_23 : decode cX6_kind 23 = .ok (.ldc 66, 2) := by decide +kernel
theorem dX6_kind_25 : decode cX6_kind 25 = .ok (.ireturn, 1) := by decide +kernel
theorem dX6_as_0 : decode cX6_as 0 = .ok (.aload_n 0, 1) := by decide +kernel
theorem dX6_as_1 : decode cX6_as 1 = .ok (.getfield 25, 3) := by decide +kernel
theorem dX6_as_4 : decode cX6_as 4 = .ok (.iload_n 1, 1) := by decide +kernel
theorem dX6_as_5 : decode cX6_as 5 = .ok (.invokevirtual 151, 3) := by decide +kernel
theorem dX6_as_8 : decode cX6_as 8 = .ok (.ifCond .eq 12, 3) := by decide +kernel
theorem dX6_as_11 : decode cX6_as 11 = .ok (.iload_n 2, 1) := by decide +kernel
theorem dX6_as_12 : decode cX6_as 12 = .ok (.iconst 0, 1) := by decide +kernel
theorem dX6_as_13 : decode cX6_as 13 = .ok (.iconst 5, 1) := by decide +kernel
theorem dX6_as_14 : decode cX6_as 14 = .ok (.invokestatic 62, 3) := by decide +kernel
theorem dX6_as_17 : decode cX6_as 17 = .ok (.ifCond .ne 6, 3) := by decide +kernel
theorem dX6_as_20 : decode cX6_as 20 = .ok (.ldc 66, 2) := by decide +kernel
theorem dX6_as_22 : decode cX6_as 22 = .ok (.ireturn, 1) := by decide +kernel
theorem dX6_as_23 : decode cX6_as 23 = .ok (.aload_n 0, 1) := by decide +kernel
theorem dX6_as_24 : decode cX6_as 24 = .ok (.getfield 25, 3) := by decide +kernel
theorem dX6_as_27 : decode cX6_as 27 = .ok (.getfield 258, 3) := by decide +kernel
theorem dX6_as_30 : decode cX6_as 30 = .ok (.iload_n 1, 1) := by decide +kernel
theorem dX6_as_31 : decode cX6_as 31 = .ok (.iaload, 1) := by decide +kernel
theorem dX6_as_32 : decode cX6_as 32 = .ok (.iload_n 2, 1) := by decide +kernel
theorem dX6_as_33 : decode cX6_as 33 = .ok (.invokestatic 261, 3) := by decide +kernel
theorem dX6_as_36 : decode cX6_as 36 = .ok (.ifCond .eq 11, 3) := by decide +kernel
theorem dX6_as_39 : decode cX6_as 39 = .ok (.aload_n 0, 1) := by decide +kernel
theorem dX6_as_40 : decode cX6_as 40 = .ok (.iload_n 1, 1) := by decide +kernel
theorem dX6_as_41 : decode cX6_as 41 = .ok (.invokevirtual 75, 3) := by decide +kernel
theorem dX6_as_44 : decode cX6_as 44 = .ok (.goto 8, 3) := by decide +kernel
theorem dX6_as_47 : decode cX6_as 47 = .ok (.aload_n 0, 1) := by decide +kernel
theorem dX6_as_48 : decode cX6_as 48 = .ok (.iconst 3, 1) := by decide +kernel
theorem dX6_as_49 : decode cX6_as 49 = .ok (.invokevirtual 67, 3) := by decide +kernel
theorem dX6_as_52 : decode cX6_as 52 = .ok (.ireturn, 1) := by decide +kernel
theorem dX6_ask_0 : decode cX6_ask 0 = .ok (.aload_n 0, 1) := by decide +kernel
theorem dX6_ask_1 : decode cX6_ask 1 = .ok (.getfield 25, 3) := by decide +kernel
theorem dX6_ask_4 : decode cX6_ask 4 = .ok (.iload_n 1, 1) := by decide +kernel
theorem dX6_ask_5 : decode cX6_ask 5 = .ok (.invokevirtual 151, 3) := by decide +kernel
theorem dX6_ask_8 : decode cX6_ask 8 = .ok (.ifCond .eq 12, 3) := by decide +kernel
theorem dX6_ask_11 : decode cX6_ask 11 = .ok (.iload_n 2, 1) := by decide +kernel
theorem dX6_ask_12 : decode cX6_ask 12 = .ok (.iconst 0, 1) := by decide +kernel
theorem dX6_ask_13 : decode cX6_ask 13 = .ok (.iconst 1, 1) := by decide +kernel
theorem dX6_ask_14 : decode cX6_ask 14 = .ok (.invokestatic 62, 3) := by decide +kernel
theorem dX6_ask_17 : decode cX6_ask 17 = .ok (.ifCond .ne 6, 3) := by decide +kernel
theorem dX6_ask_20 : decode cX6_ask 20 = .ok (.ldc 66, 2) := by decide +kernel
theorem dX6_ask_22 : decode cX6_ask 22 = .ok (.ireturn, 1) := by decide +kernel
theorem dX6_ask_23 : decode cX6_ask 23 = .ok (.iload_n 2, 1) := by decide +kernel
theorem dX6_ask_24 : decode cX6_ask 24 = .ok (.ifCond .ne 18, 3) := by decide +kernel
theorem dX6_ask_27 : decode cX6_ask 27 = .ok (.aload_n 0, 1) := by decide +kernel
theorem dX6_ask_28 : decode cX6_ask 28 = .ok (.getfield 53, 3) := by decide +kernel
theorem dX6_ask_31 : decode cX6_ask 31 = .ok (.aload_n 0, 1) := by decide +kernel
theorem dX6_ask_32 : decode cX6_ask 32 = .ok (.getfield 25, 3) := by decide +kernel
theorem dX6_ask_35 : decode cX6_ask 35 = .ok (.iload_n 1, 1) := by decide +kernel
theorem dX6_ask_36 : decode cX6_ask 36 = .ok (.invokevirtual 264, 3) := by decide +kernel
theorem dX6_ask_39 : decode cX6_ask 39 = .ok (.goto 15, 3) := by decide +kernel
theorem dX6_ask_42 : decode cX6_ask 42 = .ok (.aload_n 0, 1) := by decide +kernel
theorem dX6_ask_43 : decode cX6_ask 43 = .ok (.getfield 53, 3) := by decide +kernel
theorem dX6_ask_46 : decode cX6_ask 46 = .ok (.aload_n 0, 1) := by decide +kernel
theorem dX6_ask_47 : decode cX6_ask 47 = .ok (.getfield 25, 3) := by decide +kernel
theorem dX6_ask_50 : decode cX6_ask 50 = .ok (.iload_n 1, 1) := by decide +kernel
theorem dX6_ask_51 : decode cX6_ask 51 = .ok (.invokevirtual 267, 3) := by decide +kernel
theorem dX6_ask_54 : decode cX6_ask 54 = .ok (.ireturn, 1) := by decide +kernel
theorem dX6_trace_0 : decode cX6_trace 0 = .ok (.iload_n 1, 1) := by decide +kernel
theorem dX6_trace_1 : decode cX6_trace 1 = .ok (.iconst 0, 1) := by decide +kernel
theorem dX6_trace_2 : decode cX6_trace 2 = .ok (.aload_n 0, 1) := by decide +kernel
theorem dX6_trace_3 : decode cX6_trace 3 = .ok (.getfield 53, 3) := by decide +kernel
theorem dX6_trace_6 : decode cX6_trace 6 = .ok (.getfield 270, 3) := by decide +kernel
theorem dX6_trace_9 : decode cX6_trace 9 = .ok (.iconst 1, 1) := by decide +kernel
theorem dX6_trace_10 : decode cX6_trace 10 = .ok (.isub, 1) := by decide +kernel
theorem dX6_trace_11 : decode cX6_trace 11 = .ok (.invokestatic 62, 3) := by decide +kernel
theorem dX6_trace_14 : decode cX6_trace 14 = .ok (.ifCond .eq 15, 3) := by decide +kernel
theorem dX6_trace_17 : decode cX6_trace 17 = .ok (.aload_n 0, 1) := by decide +kernel
theorem dX6_trace_18 : decode cX6_trace 18 = .ok (.getfield 53, 3) := by decide +kernel
theorem dX6_trace_21 : decode cX6_trace 21 = .ok (.getfield 273, 3) := by decide +kernel
theorem dX6_trace_24 : decode cX6_trace 24 = .ok (.iload_n 1, 1) := by decide +kernel
theorem dX6_trace_25 : decode cX6_trace 25 = .ok (.iaload, 1) := by decide +kernel
theorem dX6_trace_26 : decode cX6_trace 26 = .ok (.goto 5, 3) := by decide +kernel
theorem dX6_trace_29 : decode cX6_trace 29 = .ok (.ldc 201, 2) := by decide +kernel
theorem dX6_trace_31 : decode cX6_trace 31 = .ok (.ireturn, 1) := by decide +kernel
theorem dX6_count_0 : decode cX6_count 0 = .ok (.iload_n 1, 1) := by decide +kernel
theorem dX6_count_1 : decode cX6_count 1 = .ok (.tableswitch 120 0 8 #[51, 56, 64, 72, 80, 88, 96, 104, 112], 51) := by decide +kernel
theorem dX6_count_52 : decode cX6_count 52 = .ok (.aload_n 0, 1) := by decide +kernel
theorem dX6_count_53 : decode cX6_count 53 = .ok (.invokevirtual 276, 3) := by decide +kernel
theorem dX6_count_56 : decode cX6_count 56 = .ok (.ireturn, 1) := by decide +kernel
theorem dX6_count_57 : decode cX6_count 57 = .ok (.aload_n 0, 1) := by decide +kernel
theorem dX6_count_58 : decode cX6_count 58 = .ok (.getfield 25, 3) := by decide +kernel
theorem dX6_count_61 : decode cX6_count 61 = .ok (.getfield 134, 3) := by decide +kernel
theorem dX6_count_64 : decode cX6_count 64 = .ok (.ireturn, 1) := by decide +kernel
theorem dX6_count_65 : decode cX6_count 65 = .ok (.aload_n 0, 1) := by decide +kernel
theorem dX6_count_66 : decode cX6_count 66 = .ok (.getfield 25, 3) := by decide +kernel
theorem dX6_count_69 : decode cX6_count 69 = .ok (.getfield 138, 3) := by decide +kernel
theorem dX6_count_72 : decode cX6_count 72 = .ok (.ireturn, 1) := by decide +kernel
theorem dX6_count_73 : decode cX6_count 73 = .ok (.aload_n 0, 1) := by decide +kernel
theorem dX6_count_74 : decode cX6_count 74 = .ok (.getfield 25, 3) := by decide +kernel
theorem dX6_count_77 : decode cX6_count 77 = .ok (.getfield 171, 3) := by decide +kernel
theorem dX6_count_80 : decode cX6_count 80 = .ok (.ireturn, 1) := by decide +kernel
theorem dX6_count_81 : decode cX6_count 81 = .ok (.aload_n 0, 1) := by decide +kernel
theorem dX6_count_82 : decode cX6_count 82 = .ok (.getfield 25, 3) := by decide +kernel
theorem dX6_count_85 : decode cX6_count 85 = .ok (.getfield 160, 3) := by decide +kernel
theorem dX6_count_88 : decode cX6_count 88 = .ok (.ireturn, 1) := by decide +kernel
theorem dX6_count_89 : decode cX6_count 89 = .ok (.aload_n 0, 1) := by decide +kernel
theorem dX6_count_90 : decode cX6_count 90 = .ok (.getfield 25, 3) := by decide +kernel
theorem dX6_count_93 : decode cX6_count 93 = .ok (.getfield 148, 3) := by decide +kernel
theorem dX6_count_96 : decode cX6_count 96 = .ok (.ireturn, 1) := by decide +kernel
theorem dX6_count_97 : decode cX6_count 97 = .ok (.aload_n 0, 1) := by decide +kernel
theorem dX6_count_98 : decode cX6_count 98 = .ok (.getfield 25, 3) := by decide +kernel
theorem dX6_count_101 : decode cX6_count 101 = .ok (.invokevirtual 279, 3) := by decide +kernel
theorem dX6_count_104 : decode cX6_count 104 = .ok (.ireturn, 1) := by decide +kernel
theorem dX6_count_105 : decode cX6_count 105 = .ok (.aload_n 0, 1) := by decide +kernel
theorem dX6_count_106 : decode cX6_count 106 = .ok (.getfield 35, 3) := by decide +kernel
theorem dX6_count_109 : decode cX6_count 109 = .ok (.getfield 183, 3) := by decide +kernel
theorem dX6_count_112 : decode cX6_count 112 = .ok (.ireturn, 1) := by decide +kernel
theorem dX6_count_113 : decode cX6_count 113 = .ok (.aload_n 0, 1) := by decide +kernel
theorem dX6_count_114 : decode cX6_count 114 = .ok (.getfield 18, 3) := by decide +kernel
theorem dX6_count_117 : decode cX6_count 117 = .ok (.getfield 114, 3) := by decide +kernel
theorem dX6_count_120 : decode cX6_count 120 = .ok (.ireturn, 1) := by decide +kernel
theorem dX6_count_121 : decode cX6_count 121 = .ok (.ldc 66, 2) := by decide +kernel
theorem dX6_count_123 : decode cX6_count 123 = .ok (.ireturn, 1) := by decide +kernel
theorem dX6_status_0 : decode cX6_status 0 = .ok (.aload_n 0, 1) := by decide +kernel
theorem dX6_status_1 : decode cX6_status 1 = .ok (.getfield 282, 3) := by decide +kernel
theorem dX6_status_4 : decode cX6_status 4 = .ok (.ireturn, 1) := by decide +kernel
theorem dX6_found_0 : decode cX6_found 0 = .ok (.aload_n 0, 1) := by decide +kernel
theorem dX6_found_1 : decode cX6_found 1 = .ok (.iload_n 1, 1) := by decide +kernel
theorem dX6_found_2 : decode cX6_found 2 = .ok (.putfield 282, 3) := by decide +kernel
theorem dX6_found_5 : decode cX6_found 5 = .ok (.ldc_w 285, 3) := by decide +kernel
theorem dX6_found_8 : decode cX6_found 8 = .ok (.iload_n 1, 1) := by decide +kernel
theorem dX6_found_9 : decode cX6_found 9 = .ok (.isub, 1) := by decide +kernel
theorem dX6_found_10 : decode cX6_found 10 = .ok (.ireturn, 1) := by decide +kernel
theorem dX6_fine_0 : decode cX6_fine 0 = .ok (.aload_n 0, 1) := by decide +kernel
theorem dX6_fine_1 : decode cX6_fine 1 = .ok (.iconst 0, 1) := by decide +kernel
theorem dX6_fine_2 : decode cX6_fine 2 = .ok (.putfield 282, 3) := by decide +kernel
theorem dX6_fine_5 : decode cX6_fine 5 = .ok (.iload_n 1, 1) := by decide +kernel
theorem dX6_fine_6 : decode cX6_fine 6 = .ok (.ireturn, 1) := by decide +kernel
theorem dX6_findingOf_0 : decode cX6_findingOf 0 = .ok (.aload_n 0, 1) := by decide +kernel
theorem dX6_findingOf_1 : decode cX6_findingOf 1 = .ok (.getfield 11, 3) := by decide +kernel
theorem dX6_findingOf_4 : decode cX6_findingOf 4 = .ok (.iload_n 1, 1) := by decide +kernel
theorem dX6_findingOf_5 : decode cX6_findingOf 5 = .ok (.aaload, 1) := by decide +kernel
theorem dX6_findingOf_6 : decode cX6_findingOf 6 = .ok (.getfield 86, 3) := by decide +kernel
theorem dX6_findingOf_9 : decode cX6_findingOf 9 = .ok (.ifCond .eq 5, 3) := by decide +kernel
theorem dX6_findingOf_12 : decode cX6_findingOf 12 = .ok (.iconst 1, 1) := by decide +kernel
theorem dX6_findingOf_13 : decode cX6_findingOf 13 = .ok (.ireturn, 1) := by decide +kernel
theorem dX6_findingOf_14 : decode cX6_findingOf 14 = .ok (.aload_n 0, 1) := by decide +kernel
theorem dX6_findingOf_15 : decode cX6_findingOf 15 = .ok (.getfield 11, 3) := by decide +kernel
theorem dX6_findingOf_18 : decode cX6_findingOf 18 = .ok (.iload_n 1, 1) := by decide +kernel
theorem dX6_findingOf_19 : decode cX6_findingOf 19 = .ok (.aaload, 1) := by decide +kernel
theorem dX6_findingOf_20 : decode cX6_findingOf 20 = .ok (.iload_n 2, 1) := by decide +kernel
theorem dX6_findingOf_21 : decode cX6_findingOf 21 = .ok (.iload_n 3, 1) := by decide +kernel
theorem dX6_findingOf_22 : decode cX6_findingOf 22 = .ok (.invokevirtual 94, 3) := by decide +kernel
theorem dX6_findingOf_25 : decode cX6_findingOf 25 = .ok (.ifCond .eq 7, 3) := by decide +kernel
theorem dX6_findingOf_28 : decode cX6_findingOf 28 = .ok (.iconst 0, 1) := by decide +kernel
theorem dX6_findingOf_29 : decode cX6_findingOf 29 = .ok (.goto 4, 3) := by decide +kernel
theorem dX6_findingOf_32 : decode cX6_findingOf 32 = .ok (.iconst 2, 1) := by decide +kernel
theorem dX6_findingOf_33 : decode cX6_findingOf 33 = .ok (.ireturn, 1) := by decide +kernel
theorem dX6_countRows_0 : decode cX6_countRows 0 = .ok (.iconst 0, 1) := by decide +kernel
theorem dX6_countRows_1 : decode cX6_countRows 1 = .ok (.istore_n 1, 1) := by decide +kernel
theorem dX6_countRows_2 : decode cX6_countRows 2 = .ok (.iconst 0, 1) := by decide +kernel
theorem dX6_countRows_3 : decode cX6_countRows 3 = .ok (.istore_n 2, 1) := by decide +kernel
theorem dX6_countRows_4 : decode cX6_countRows 4 = .ok (.iload_n 2, 1) := by decide +kernel
theorem dX6_countRows_5 : decode cX6_countRows 5 = .ok (.bipush 8, 2) := by decide +kernel
theorem dX6_countRows_7 : decode cX6_countRows 7 = .ok (.if_icmp .ge 24, 3) := by decide +kernel
theorem dX6_countRows_10 : decode cX6_countRows 10 = .ok (.aload_n 0, 1) := by decide +kernel
theorem dX6_countRows_11 : decode cX6_countRows 11 = .ok (.getfield 11, 3) := by decide +kernel
theorem dX6_countRows_14 : decode cX6_countRows 14 = .ok (.iload_n 2, 1) := by decide +kernel
theorem dX6_countRows_15 : decode cX6_countRows 15 = .ok (.aaload, 1) := by decide +kernel
theorem dX6_countRows_16 : decode cX6_countRows 16 = .ok (.getfield 86, 3) := by decide +kernel
theorem dX6_countRows_19 : decode cX6_countRows 19 = .ok (.ifCond .ne 6, 3) := by decide +kernel
theorem dX6_countRows_22 : decode cX6_countRows 22 = .ok (.iinc 1 1, 3) := by decide +kernel
theorem dX6_countRows_25 : decode cX6_countRows 25 = .ok (.iinc 2 1, 3) := by decide +kernel
theorem dX6_countRows_28 : decode cX6_countRows 28 = .ok (.goto (-24), 3) := by decide +kernel
theorem dX6_countRows_31 : decode cX6_countRows 31 = .ok (.iload_n 1, 1) := by decide +kernel
theorem dX6_countRows_32 : decode cX6_countRows 32 = .ok (.ireturn, 1) := by decide +kernel
theorem dX6_isRow_0 : decode cX6_isRow 0 = .ok (.iload_n 0, 1) := by decide +kernel
theorem dX6_isRow_1 : decode cX6_isRow 1 = .ok (.iconst 0, 1) := by decide +kernel
theorem dX6_isRow_2 : decode cX6_isRow 2 = .ok (.bipush 7, 2) := by decide +kernel
theorem dX6_isRow_4 : decode cX6_isRow 4 = .ok (.invokestatic 62, 3) := by decide +kernel
theorem dX6_isRow_7 : decode cX6_isRow 7 = .ok (.ireturn, 1) := by decide +kernel
theorem dX6_within_0 : decode cX6_within 0 = .ok (.iload_n 0, 1) := by decide +kernel
theorem dX6_within_1 : decode cX6_within 1 = .ok (.iload_n 1, 1) := by decide +kernel
theorem dX6_within_2 : decode cX6_within 2 = .ok (.if_icmp .lt 12, 3) := by decide +kernel
theorem dX6_within_5 : decode cX6_within 5 = .ok (.iload_n 0, 1) := by decide +kernel
theorem dX6_within_6 : decode cX6_within 6 = .ok (.iload_n 2, 1) := by decide +kernel
theorem dX6_within_7 : decode cX6_within 7 = .ok (.if_icmp .gt 7, 3) := by decide +kernel
theorem dX6_within_10 : decode cX6_within 10 = .ok (.iconst 1, 1) := by decide +kernel
theorem dX6_within_11 : decode cX6_within 11 = .ok (.goto 4, 3) := by decide +kernel
theorem dX6_within_14 : decode cX6_within 14 = .ok (.iconst 0, 1) := by decide +kernel
theorem dX6_within_15 : decode cX6_within 15 = .ok (.ireturn, 1) := by decide +kernel
theorem dX6_isA_0 : decode cX6_isA 0 = .ok (.iload_n 0, 1) := by decide +kernel
theorem dX6_isA_1 : decode cX6_isA 1 = .ok (.istore_n 2, 1) := by decide +kernel
theorem dX6_isA_2 : decode cX6_isA 2 = .ok (.iconst 0, 1) := by decide +kernel
theorem dX6_isA_3 : decode cX6_isA 3 = .ok (.istore_n 3, 1) := by decide +kernel
theorem dX6_isA_4 : decode cX6_isA 4 = .ok (.iload_n 3, 1) := by decide +kernel
theorem dX6_isA_5 : decode cX6_isA 5 = .ok (.iconst 5, 1) := by decide +kernel
theorem dX6_isA_6 : decode cX6_isA 6 = .ok (.if_icmp .gt 26, 3) := by decide +kernel
theorem dX6_isA_9 : decode cX6_isA 9 = .ok (.iload_n 2, 1) := by decide +kernel
theorem dX6_isA_10 : decode cX6_isA 10 = .ok (.ifCond .lt 22, 3) := by decide +kernel
theorem dX6_isA_13 : decode cX6_isA 13 = .ok (.iload_n 2, 1) := by decide +kernel
theorem dX6_isA_14 : decode cX6_isA 14 = .ok (.iload_n 1, 1) := by decide +kernel
theorem dX6_isA_15 : decode cX6_isA 15 = .ok (.if_icmp .ne 5, 3) := by decide +kernel
theorem dX6_isA_18 : decode cX6_isA 18 = .ok (.iconst 1, 1) := by decide +kernel
theorem dX6_isA_19 : decode cX6_isA 19 = .ok (.ireturn, 1) := by decide +kernel
theorem dX6_isA_20 : decode cX6_isA 20 = .ok (.getstatic 286, 3) := by decide +kernel
theorem dX6_isA_23 : decode cX6_isA 23 = .ok (.iload_n 2, 1) := by decide +kernel
theorem dX6_isA_24 : decode cX6_isA 24 = .ok (.iaload, 1) := by decide +kernel
theorem dX6_isA_25 : decode cX6_isA 25 = .ok (.istore_n 2, 1) := by decide +kernel
theorem dX6_isA_26 : decode cX6_isA 26 = .ok (.iinc 3 1, 3) := by decide +kernel
theorem dX6_isA_29 : decode cX6_isA 29 = .ok (.goto (-25), 3) := by decide +kernel
theorem dX6_isA_32 : decode cX6_isA 32 = .ok (.iconst 0, 1) := by decide +kernel
theorem dX6_isA_33 : decode cX6_isA 33 = .ok (.ireturn, 1) := by decide +kernel
theorem dX6_power_0 : decode cX6_power 0 = .ok (.lconst 1, 1) := by decide +kernel
theorem dX6_power_1 : decode cX6_power 1 = .ok (.lstore_n 2, 1) := by decide +kernel
theorem dX6_power_2 : decode cX6_power 2 = .ok (.iconst 0, 1) := by decide +kernel
theorem dX6_power_3 : decode cX6_power 3 = .ok (.istore 4, 2) := by decide +kernel
theorem dX6_power_5 : decode cX6_power 5 = .ok (.iload 4, 2) := by decide +kernel
theorem dX6_power_7 : decode cX6_power 7 = .ok (.iload_n 1, 1) := by decide +kernel
theorem dX6_power_8 : decode cX6_power 8 = .ok (.if_icmp .ge 14, 3) := by decide +kernel
theorem dX6_power_11 : decode cX6_power 11 = .ok (.lload_n 2, 1) := by decide +kernel
theorem dX6_power_12 : decode cX6_power 12 = .ok (.iload_n 0, 1) := by decide +kernel
theorem dX6_power_13 : decode cX6_power 13 = .ok (.i2l, 1) := by decide +kernel
theorem dX6_power_14 : decode cX6_power 14 = .ok (.lmul, 1) := by decide +kernel
theorem dX6_power_15 : decode cX6_power 15 = .ok (.lstore_n 2, 1) := by decide +kernel
theorem dX6_power_16 : decode cX6_power 16 = .ok (.iinc 4 1, 3) := by decide +kernel
theorem dX6_power_19 : decode cX6_power 19 = .ok (.goto (-14), 3) := by decide +kernel
theorem dX6_power_22 : decode cX6_power 22 = .ok (.lload_n 2, 1) := by decide +kernel
theorem dX6_power_23 : decode cX6_power 23 = .ok (.lreturn, 1) := by decide +kernel
theorem dX6_commonDivisor_0 : decode cX6_commonDivisor 0 = .ok (.lload_n 0, 1) := by decide +kernel
theorem dX6_commonDivisor_1 : decode cX6_commonDivisor 1 = .ok (.lstore 4, 2) := by decide +kernel
theorem dX6_commonDivisor_3 : decode cX6_commonDivisor 3 = .ok (.lload_n 2, 1) := by decide +kernel
theorem dX6_commonDivisor_4 : decode cX6_commonDivisor 4 = .ok (.lstore 6, 2) := by decide +kernel
theorem dX6_commonDivisor_6 : decode cX6_commonDivisor 6 = .ok (.iconst 0, 1) := by decide +kernel
theorem dX6_commonDivisor_7 : decode cX6_commonDivisor 7 = .ok (.istore 8, 2) := by decide +kernel
theorem dX6_commonDivisor_9 : decode cX6_commonDivisor 9 = .ok (.iload 8, 2) := by decide +kernel
theorem dX6_commonDivisor_11 : decode cX6_commonDivisor 11 = .ok (.sipush 128, 3) := by decide +kernel
theorem dX6_commonDivisor_14 : decode cX6_commonDivisor 14 = .ok (.if_icmp .ge 31, 3) := by decide +kernel
theorem dX6_commonDivisor_17 : decode cX6_commonDivisor 17 = .ok (.lload 6, 2) := by decide +kernel
theorem dX6_commonDivisor_19 : decode cX6_commonDivisor 19 = .ok (.lconst 0, 1) := by decide +kernel
theorem dX6_commonDivisor_20 : decode cX6_commonDivisor 20 = .ok (.lcmp, 1) := by decide +kernel
theorem dX6_commonDivisor_21 : decode cX6_commonDivisor 21 = .ok (.ifCond .eq 24, 3) := by decide +kernel
theorem dX6_commonDivisor_24 : decode cX6_commonDivisor 24 = .ok (.lload 4, 2) := by decide +kernel
theorem dX6_commonDivisor_26 : decode cX6_commonDivisor 26 = .ok (.lload 6, 2) := by decide +kernel
theorem dX6_commonDivisor_28 : decode cX6_commonDivisor 28 = .ok (.lrem, 1) := by decide +kernel
theorem dX6_commonDivisor_29 : decode cX6_commonDivisor 29 = .ok (.lstore 9, 2) := by decide +kernel
theorem dX6_commonDivisor_31 : decode cX6_commonDivisor 31 = .ok (.lload 6, 2) := by decide +kernel
theorem dX6_commonDivisor_33 : decode cX6_commonDivisor 33 = .ok (.lstore 4, 2) := by decide +kernel
theorem dX6_commonDivisor_35 : decode cX6_commonDivisor 35 = .ok (.lload 9, 2) := by decide +kernel
theorem dX6_commonDivisor_37 : decode cX6_commonDivisor 37 = .ok (.lstore 6, 2) := by decide +kernel
theorem dX6_commonDivisor_39 : decode cX6_commonDivisor 39 = .ok (.iinc 8 1, 3) := by decide +kernel
theorem dX6_commonDivisor_42 : decode cX6_commonDivisor 42 = .ok (.goto (-33), 3) := by decide +kernel
theorem dX6_commonDivisor_45 : decode cX6_commonDivisor 45 = .ok (.lload 4, 2) := by decide +kernel
theorem dX6_commonDivisor_47 : decode cX6_commonDivisor 47 = .ok (.lreturn, 1) := by decide +kernel
