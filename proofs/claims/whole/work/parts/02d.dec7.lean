theorem dX7_init_0 : decode cX7_init 0 = .ok (.aload_n 0, 1) := by decide +kernel
theorem dX7_init_1 : decode cX7_init 1 = .ok (.invokespecial 1, 3) := by decide +kernel
theorem dX7_init_4 : decode cX7_init 4 = .ok (.aload_n 0, 1) := by decide +kernel
theorem dX7_init_5 : decode cX7_init 5 = .ok (.bipush 8, 2) := by decide +kernel
theorem dX7_init_7 : decode cX7_init 7 = .ok (.newarray .int, 2) := by decide +kernel
theorem dX7_init_9 : decode cX7_init 9 = .ok (.putfield 7, 3) := by decide +kernel
theorem dX7_init_12 : decode cX7_init 12 = .ok (.aload_n 0, 1) := by decide +kernel
theorem dX7_init_13 : decode cX7_init 13 = .ok (.bipush 8, 2) := by decide +kernel
theorem dX7_init_15 : decode cX7_init 15 = .ok (.newarray .int, 2) := by decide +kernel
theorem dX7_init_17 : decode cX7_init 17 = .ok (.putfield 13, 3) := by decide +kernel
theorem dX7_init_20 : decode cX7_init 20 = .ok (.aload_n 0, 1) := by decide +kernel
theorem dX7_init_21 : decode cX7_init 21 = .ok (.sipush 320, 3) := by decide +kernel
theorem dX7_init_24 : decode cX7_init 24 = .ok (.newarray .int, 2) := by decide +kernel
theorem dX7_init_26 : decode cX7_init 26 = .ok (.putfield 16, 3) := by decide +kernel
theorem dX7_init_29 : decode cX7_init 29 = .ok (.aload_n 0, 1) := by decide +kernel
theorem dX7_init_30 : decode cX7_init 30 = .ok (.bipush 40, 2) := by decide +kernel
theorem dX7_init_32 : decode cX7_init 32 = .ok (.newarray .int, 2) := by decide +kernel
theorem dX7_init_34 : decode cX7_init 34 = .ok (.putfield 19, 3) := by decide +kernel
theorem dX7_init_37 : decode cX7_init 37 = .ok (.aload_n 0, 1) := by decide +kernel
theorem dX7_init_38 : decode cX7_init 38 = .ok (.bipush 60, 2) := by decide +kernel
theorem dX7_init_40 : decode cX7_init 40 = .ok (.newarray .int, 2) := by decide +kernel
theorem dX7_init_42 : decode cX7_init 42 = .ok (.putfield 22, 3) := by decide +kernel
theorem dX7_init_45 : decode cX7_init 45 = .ok (.aload_n 0, 1) := by decide +kernel
theorem dX7_init_46 : decode cX7_init 46 = .ok (.bipush 63, 2) := by decide +kernel
theorem dX7_init_48 : decode cX7_init 48 = .ok (.newarray .int, 2) := by decide +kernel
theorem dX7_init_50 : decode cX7_init 50 = .ok (.putfield 25, 3) := by decide +kernel
theorem dX7_init_53 : decode cX7_init 53 = .ok (.aload_n 0, 1) := by decide +kernel
theorem dX7_init_54 : decode cX7_init 54 = .ok (.bipush 63, 2) := by decide +kernel
theorem dX7_init_56 : decode cX7_init 56 = .ok (.newarray .int, 2) := by decide +kernel
theorem dX7_init_58 : decode cX7_init 58 = .ok (.putfield 28, 3) := by decide +kernel
theorem dX7_init_61 : decode cX7_init 61 = .ok (.aload_n 0, 1) := by decide +kernel
theorem dX7_init_62 : decode cX7_init 62 = .ok (.bipush 126, 2) := by decide +kernel
theorem dX7_init_64 : decode cX7_init 64 = .ok (.newarray .int, 2) := by decide +kernel
theorem dX7_init_66 : decode cX7_init 66 = .ok (.putfield 31, 3) := by decide +kernel
theorem dX7_init_69 : decode cX7_init 69 = .ok (.aload_n 0, 1) := by decide +kernel
theorem dX7_init_70 : decode cX7_init 70 = .ok (.iconst 2, 1) := by decide +kernel
theorem dX7_init_71 : decode cX7_init 71 = .ok (.newarray .boolean, 2) := by decide +kernel
theorem dX7_init_73 : decode cX7_init 73 = .ok (.putfield 34, 3) := by decide +kernel
theorem dX7_init_76 : decode cX7_init 76 = .ok (.aload_n 0, 1) := by decide +kernel
theorem dX7_init_77 : decode cX7_init 77 = .ok (.sipush 1104, 3) := by decide +kernel
theorem dX7_init_80 : decode cX7_init 80 = .ok (.newarray .int, 2) := by decide +kernel
theorem dX7_init_82 : decode cX7_init 82 = .ok (.putfield 38, 3) := by decide +kernel
theorem dX7_init_85 : decode cX7_init 85 = .ok (.aload_n 0, 1) := by decide +kernel
theorem dX7_init_86 : decode cX7_init 86 = .ok (.bipush 63, 2) := by decide +kernel
theorem dX7_init_88 : decode cX7_init 88 = .ok (.newarray .int, 2) := by decide +kernel
theorem dX7_init_90 : decode cX7_init 90 = .ok (.putfield 41, 3) := by decide +kernel
theorem dX7_init_93 : decode cX7_init 93 = .ok (.aload_n 0, 1) := by decide +kernel
theorem dX7_init_94 : decode cX7_init 94 = .ok (.bipush 16, 2) := by decide +kernel
theorem dX7_init_96 : decode cX7_init 96 = .ok (.newarray .int, 2) := by decide +kernel
theorem dX7_init_98 : decode cX7_init 98 = .ok (.putfield 44, 3) := by decide +kernel
theorem dX7_init_101 : decode cX7_init 101 = .ok (.iconst 0, 1) := by decide +kernel
theorem dX7_init_102 : decode cX7_init 102 = .ok (.istore_n 1, 1) := by decide +kernel
theorem dX7_init_103 : decode cX7_init 103 = .ok (.iload_n 1, 1) := by decide +kernel
theorem dX7_init_104 : decode cX7_init 104 = .ok (.bipush 8, 2) := by decide +kernel
theorem dX7_init_106 : decode cX7_init 106 = .ok (.if_icmp .ge 16, 3) := by decide +kernel
theorem dX7_init_109 : decode cX7_init 109 = .ok (.aload_n 0, 1) := by decide +kernel
theorem dX7_init_110 : decode cX7_init 110 = .ok (.getfield 7, 3) := by decide +kernel
theorem dX7_init_113 : decode cX7_init 113 = .ok (.iload_n 1, 1) := by decide +kernel
theorem dX7_init_114 : decode cX7_init 114 = .ok (.iconst (-1), 1) := by decide +kernel
theorem dX7_init_115 : decode cX7_init 115 = .ok (.iastore, 1) := by decide +kernel
theorem dX7_init_116 : decode cX7_init 116 = .ok (.iinc 1 1, 3) := by decide +kernel
theorem dX7_init_119 : decode cX7_init 119 = .ok (.goto (-16), 3) := by decide +kernel
theorem dX7_init_122 : decode cX7_init 122 = .ok (.return_, 1) := by decide +kernel
theorem dX7_in_0 : decode cX7_in 0 = .ok (.iload_n 0, 1) := by decide +kernel
theorem dX7_in_1 : decode cX7_in 1 = .ok (.iload_n 1, 1) := by decide +kernel
theorem dX7_in_2 : decode cX7_in 2 = .ok (.if_icmp .lt 12, 3) := by decide +kernel
theorem dX7_in_5 : decode cX7_in 5 = .ok (.iload_n 0, 1) := by decide +kernel
theorem dX7_in_6 : decode cX7_in 6 = .ok (.iload_n 2, 1) := by decide +kernel
theorem dX7_in_7 : decode cX7_in 7 = .ok (.if_icmp .gt 7, 3) := by decide +kernel
theorem dX7_in_10 : decode cX7_in 10 = .ok (.iconst 1, 1) := by decide +kernel
theorem dX7_in_11 : decode cX7_in 11 = .ok (.goto 4, 3) := by decide +kernel
theorem dX7_in_14 : decode cX7_in 14 = .ok (.iconst 0, 1) := by decide +kernel
theorem dX7_in_15 : decode cX7_in 15 = .ok (.ireturn, 1) := by decide +kernel
theorem dX7_isRow_0 : decode cX7_isRow 0 = .ok (.iload_n 0, 1) := by decide +kernel
theorem dX7_isRow_1 : decode cX7_isRow 1 = .ok (.iconst 0, 1) := by decide +kernel
theorem dX7_isRow_2 : decode cX7_isRow 2 = .ok (.bipush 7, 2) := by decide +kernel
theorem dX7_isRow_4 : decode cX7_isRow 4 = .ok (.invokestatic 47, 3) := by decide +kernel
theorem dX7_isRow_7 : decode cX7_isRow 7 = .ok (.ireturn, 1) := by decide +kernel
theorem dX7_ends_0 : decode cX7_ends 0 = .ok (.aload_n 0, 1) := by decide +kernel
theorem dX7_ends_1 : decode cX7_ends 1 = .ok (.iload_n 1, 1) := by decide +kernel
theorem dX7_ends_2 : decode cX7_ends 2 = .ok (.ldc 51, 2) := by decide +kernel
theorem dX7_ends_4 : decode cX7_ends 4 = .ok (.ldc 52, 2) := by decide +kernel
theorem dX7_ends_6 : decode cX7_ends 6 = .ok (.invokestatic 47, 3) := by decide +kernel
theorem dX7_ends_9 : decode cX7_ends 9 = .ok (.ifCond .eq 10, 3) := by decide +kernel
theorem dX7_ends_12 : decode cX7_ends 12 = .ok (.ldc 53, 2) := by decide +kernel
theorem dX7_ends_14 : decode cX7_ends 14 = .ok (.iload_n 1, 1) := by decide +kernel
theorem dX7_ends_15 : decode cX7_ends 15 = .ok (.isub, 1) := by decide +kernel
theorem dX7_ends_16 : decode cX7_ends 16 = .ok (.goto 4, 3) := by decide +kernel
theorem dX7_ends_19 : decode cX7_ends 19 = .ok (.iconst 0, 1) := by decide +kernel
theorem dX7_ends_20 : decode cX7_ends 20 = .ok (.putfield 54, 3) := by decide +kernel
theorem dX7_ends_23 : decode cX7_ends 23 = .ok (.iload_n 1, 1) := by decide +kernel
theorem dX7_ends_24 : decode cX7_ends 24 = .ok (.ireturn, 1) := by decide +kernel
theorem dX7_cut_0 : decode cX7_cut 0 = .ok (.iload_n 0, 1) := by decide +kernel
theorem dX7_cut_1 : decode cX7_cut 1 = .ok (.ifCond .ne 8, 3) := by decide +kernel
theorem dX7_cut_4 : decode cX7_cut 4 = .ok (.iload_n 1, 1) := by decide +kernel
theorem dX7_cut_5 : decode cX7_cut 5 = .ok (.i2b, 1) := by decide +kernel
theorem dX7_cut_6 : decode cX7_cut 6 = .ok (.goto 14, 3) := by decide +kernel
theorem dX7_cut_9 : decode cX7_cut 9 = .ok (.iload_n 0, 1) := by decide +kernel
theorem dX7_cut_10 : decode cX7_cut 10 = .ok (.iconst 1, 1) := by decide +kernel
theorem dX7_cut_11 : decode cX7_cut 11 = .ok (.if_icmp .ne 8, 3) := by decide +kernel
theorem dX7_cut_14 : decode cX7_cut 14 = .ok (.iload_n 1, 1) := by decide +kernel
theorem dX7_cut_15 : decode cX7_cut 15 = .ok (.i2s, 1) := by decide +kernel
theorem dX7_cut_16 : decode cX7_cut 16 = .ok (.goto 4, 3) := by decide +kernel
theorem dX7_cut_19 : decode cX7_cut 19 = .ok (.iload_n 1, 1) := by decide +kernel
theorem dX7_cut_20 : decode cX7_cut 20 = .ok (.ireturn, 1) := by decide +kernel
theorem dX7_row_0 : decode cX7_row 0 = .ok (.iload_n 1, 1) := by decide +kernel
theorem dX7_row_1 : decode cX7_row 1 = .ok (.invokestatic 58, 3) := by decide +kernel
theorem dX7_row_4 : decode cX7_row 4 = .ok (.ifCond .eq 18, 3) := by decide +kernel
theorem dX7_row_7 : decode cX7_row 7 = .ok (.iload_n 2, 1) := by decide +kernel
theorem dX7_row_8 : decode cX7_row 8 = .ok (.iconst 0, 1) := by decide +kernel
theorem dX7_row_9 : decode cX7_row 9 = .ok (.iconst 2, 1) := by decide +kernel
theorem dX7_row_10 : decode cX7_row 10 = .ok (.invokestatic 47, 3) := by decide +kernel
theorem dX7_row_13 : decode cX7_row 13 = .ok (.ifCond .eq 9, 3) := by decide +kernel
theorem dX7_row_16 : decode cX7_row 16 = .ok (.iload_n 3, 1) := by decide +kernel
theorem dX7_row_17 : decode cX7_row 17 = .ok (.bipush 40, 2) := by decide +kernel
theorem dX7_row_19 : decode cX7_row 19 = .ok (.if_icmp .le 6, 3) := by decide +kernel
theorem dX7_row_22 : decode cX7_row 22 = .ok (.ldc 62, 2) := by decide +kernel
theorem dX7_row_24 : decode cX7_row 24 = .ok (.ireturn, 1) := by decide +kernel
theorem dX7_row_25 : decode cX7_row 25 = .ok (.iload_n 3, 1) := by decide +kernel
theorem dX7_row_26 : decode cX7_row 26 = .ok (.ifCond .ge 10, 3) := by decide +kernel
theorem dX7_row_29 : decode cX7_row 29 = .ok (.aload_n 0, 1) := by decide +kernel
theorem dX7_row_30 : decode cX7_row 30 = .ok (.ldc 63, 2) := by decide +kernel
theorem dX7_row_32 : decode cX7_row 32 = .ok (.invokevirtual 64, 3) := by decide +kernel
theorem dX7_row_35 : decode cX7_row 35 = .ok (.ireturn, 1) := by decide +kernel
theorem dX7_row_36 : decode cX7_row 36 = .ok (.aload_n 0, 1) := by decide +kernel
theorem dX7_row_37 : decode cX7_row 37 = .ok (.getfield 7, 3) := by decide +kernel
theorem dX7_row_40 : decode cX7_row 40 = .ok (.iload_n 1, 1) := by decide +kernel
theorem dX7_row_41 : decode cX7_row 41 = .ok (.iload_n 3, 1) := by decide +kernel
theorem dX7_row_42 : decode cX7_row 42 = .ok (.iastore, 1) := by decide +kernel
theorem dX7_row_43 : decode cX7_row 43 = .ok (.aload_n 0, 1) := by decide +kernel
theorem dX7_row_44 : decode cX7_row 44 = .ok (.getfield 13, 3) := by decide +kernel
theorem dX7_row_47 : decode cX7_row 47 = .ok (.iload_n 1, 1) := by decide +kernel
theorem dX7_row_48 : decode cX7_row 48 = .ok (.iload_n 2, 1) := by decide +kernel
theorem dX7_row_49 : decode cX7_row 49 = .ok (.iastore, 1) := by decide +kernel
theorem dX7_row_50 : decode cX7_row 50 = .ok (.iconst 0, 1) := by decide +kernel
theorem dX7_row_51 : decode cX7_row 51 = .ok (.istore 4, 2) := by decide +kernel
theorem dX7_row_53 : decode cX7_row 53 = .ok (.iload 4, 2) := by decide +kernel
theorem dX7_row_55 : decode cX7_row 55 = .ok (.bipush 40, 2) := by decide +kernel
theorem dX7_row_57 : decode cX7_row 57 = .ok (.if_icmp .ge 22, 3) := by decide +kernel
theorem dX7_row_60 : decode cX7_row 60 = .ok (.aload_n 0, 1) := by decide +kernel
theorem dX7_row_61 : decode cX7_row 61 = .ok (.getfield 16, 3) := by decide +kernel
theorem dX7_row_64 : decode cX7_row 64 = .ok (.bipush 40, 2) := by decide +kernel
theorem dX7_row_66 : decode cX7_row 66 = .ok (.iload_n 1, 1) := by decide +kernel
theorem dX7_row_67 : decode cX7_row 67 = .ok (.imul, 1) := by decide +kernel
theorem dX7_row_68 : decode cX7_row 68 = .ok (.iload 4, 2) := by decide +kernel
theorem dX7_row_70 : decode cX7_row 70 = .ok (.iadd, 1) := by decide +kernel
theorem dX7_row_71 : decode cX7_row 71 = .ok (.iconst 0, 1) := by decide +kernel
theorem dX7_row_72 : decode cX7_row 72 = .ok (.iastore, 1) := by decide +kernel
theorem dX7_row_73 : decode cX7_row 73 = .ok (.iinc 4 1, 3) := by decide +kernel
theorem dX7_row_76 : decode cX7_row 76 = .ok (.goto (-23), 3) := by decide +kernel
theorem dX7_row_79 : decode cX7_row 79 = .ok (.aload_n 0, 1) := by decide +kernel
theorem dX7_row_80 : decode cX7_row 80 = .ok (.iload_n 3, 1) := by decide +kernel
theorem dX7_row_81 : decode cX7_row 81 = .ok (.invokevirtual 64, 3) := by decide +kernel
theorem dX7_row_84 : decode cX7_row 84 = .ok (.ireturn, 1) := by decide +kernel
theorem dX7_lies_0 : decode cX7_lies 0 = .ok (.iload_n 2, 1) := by decide +kernel
theorem dX7_lies_1 : decode cX7_lies 1 = .ok (.ifCond .lt 33, 3) := by decide +kernel
theorem dX7_lies_4 : decode cX7_lies 4 = .ok (.iload_n 3, 1) := by decide +kernel
theorem dX7_lies_5 : decode cX7_lies 5 = .ok (.ifCond .lt 29, 3) := by decide +kernel
theorem dX7_lies_8 : decode cX7_lies 8 = .ok (.iload_n 3, 1) := by decide +kernel
theorem dX7_lies_9 : decode cX7_lies 9 = .ok (.aload_n 0, 1) := by decide +kernel
theorem dX7_lies_10 : decode cX7_lies 10 = .ok (.getfield 7, 3) := by decide +kernel
theorem dX7_lies_13 : decode cX7_lies 13 = .ok (.iload_n 1, 1) := by decide +kernel
theorem dX7_lies_14 : decode cX7_lies 14 = .ok (.iaload, 1) := by decide +kernel
theorem dX7_lies_15 : decode cX7_lies 15 = .ok (.if_icmp .gt 19, 3) := by decide +kernel
theorem dX7_lies_18 : decode cX7_lies 18 = .ok (.iload_n 2, 1) := by decide +kernel
theorem dX7_lies_19 : decode cX7_lies 19 = .ok (.aload_n 0, 1) := by decide +kernel
theorem dX7_lies_20 : decode cX7_lies 20 = .ok (.getfield 7, 3) := by decide +kernel
theorem dX7_lies_23 : decode cX7_lies 23 = .ok (.iload_n 1, 1) := by decide +kernel
theorem dX7_lies_24 : decode cX7_lies 24 = .ok (.iaload, 1) := by decide +kernel
theorem dX7_lies_25 : decode cX7_lies 25 = .ok (.iload_n 3, 1) := by decide +kernel
theorem dX7_lies_26 : decode cX7_lies 26 = .ok (.isub, 1) := by decide +kernel
theorem dX7_lies_27 : decode cX7_lies 27 = .ok (.if_icmp .gt 7, 3) := by decide +kernel
theorem dX7_lies_30 : decode cX7_lies 30 = .ok (.iconst 1, 1) := by decide +kernel
theorem dX7_lies_31 : decode cX7_lies 31 = .ok (.goto 4, 3) := by decide +kernel
theorem dX7_lies_34 : decode cX7_lies 34 = .ok (.iconst 0, 1) := by decide +kernel
theorem dX7_lies_35 : decode cX7_lies 35 = .ok (.ireturn, 1) := by decide +kernel
theorem dX7_set_0 : decode cX7_set 0 = .ok (.iload_n 1, 1) := by decide +kernel
theorem dX7_set_1 : decode cX7_set 1 = .ok (.invokestatic 58, 3) := by decide +kernel
theorem dX7_set_4 : decode cX7_set 4 = .ok (.ifCond .ne 6, 3) := by decide +kernel
theorem dX7_set_7 : decode cX7_set 7 = .ok (.ldc 62, 2) := by decide +kernel
theorem dX7_set_9 : decode cX7_set 9 = .ok (.ireturn, 1) := by decide +kernel
theorem dX7_set_10 : decode cX7_set 10 = .ok (.aload_n 0, 1) := by decide +kernel
theorem dX7_set_11 : decode cX7_set 11 = .ok (.getfield 7, 3) := by decide +kernel
theorem dX7_set_14 : decode cX7_set 14 = .ok (.iload_n 1, 1) := by decide +kernel
theorem dX7_set_15 : decode cX7_set 15 = .ok (.iaload, 1) := by decide +kernel
theorem dX7_set_16 : decode cX7_set 16 = .ok (.ifCond .ge 10, 3) := by decide +kernel
theorem dX7_set_19 : decode cX7_set 19 = .ok (.aload_n 0, 1) := by decide +kernel
theorem dX7_set_20 : decode cX7_set 20 = .ok (.ldc 52, 2) := by decide +kernel
theorem dX7_set_22 : decode cX7_set 22 = .ok (.invokevirtual 64, 3) := by decide +kernel
theorem dX7_set_25 : decode cX7_set 25 = .ok (.ireturn, 1) := by decide +kernel
theorem dX7_set_26 : decode cX7_set 26 = .ok (.aload_n 0, 1) := by decide +kernel
theorem dX7_set_27 : decode cX7_set 27 = .ok (.iload_n 1, 1) := by decide +kernel
theorem dX7_set_28 : decode cX7_set 28 = .ok (.iload_n 2, 1) := by decide +kernel
theorem dX7_set_29 : decode cX7_set 29 = .ok (.iconst 1, 1) := by decide +kernel
theorem dX7_set_30 : decode cX7_set 30 = .ok (.invokevirtual 68, 3) := by decide +kernel
theorem dX7_set_33 : decode cX7_set 33 = .ok (.ifCond .ne 10, 3) := by decide +kernel
theorem dX7_set_36 : decode cX7_set 36 = .ok (.aload_n 0, 1) := by decide +kernel
theorem dX7_set_37 : decode cX7_set 37 = .ok (.ldc 71, 2) := by decide +kernel
theorem dX7_set_39 : decode cX7_set 39 = .ok (.invokevirtual 64, 3) := by decide +kernel
theorem dX7_set_42 : decode cX7_set 42 = .ok (.ireturn, 1) := by decide +kernel
theorem dX7_set_43 : decode cX7_set 43 = .ok (.aload_n 0, 1) := by decide +kernel
theorem dX7_set_44 : decode cX7_set 44 = .ok (.getfield 13, 3) := by decide +kernel
theorem dX7_set_47 : decode cX7_set 47 = .ok (.iload_n 1, 1) := by decide +kernel
theorem dX7_set_48 : decode cX7_set 48 = .ok (.iaload, 1) := by decide +kernel
theorem dX7_set_49 : decode cX7_set 49 = .ok (.iload_n 3, 1) := by decide +kernel
theorem dX7_set_50 : decode cX7_set 50 = .ok (.invokestatic 72, 3) := by decide +kernel
theorem dX7_set_53 : decode cX7_set 53 = .ok (.istore 4, 2) := by decide +kernel
theorem dX7_set_55 : decode cX7_set 55 = .ok (.aload_n 0, 1) := by decide +kernel
theorem dX7_set_56 : decode cX7_set 56 = .ok (.getfield 16, 3) := by decide +kernel
theorem dX7_set_59 : decode cX7_set 59 = .ok (.bipush 40, 2) := by decide +kernel
theorem dX7_set_61 : decode cX7_set 61 = .ok (.iload_n 1, 1) := by decide +kernel
theorem dX7_set_62 : decode cX7_set 62 = .ok (.imul, 1) := by decide +kernel
theorem dX7_set_63 : decode cX7_set 63 = .ok (.iload_n 2, 1) := by decide +kernel
theorem dX7_set_64 : decode cX7_set 64 = .ok (.iadd, 1) := by decide +kernel
theorem dX7_set_65 : decode cX7_set 65 = .ok (.iload 4, 2) := by decide +kernel
theorem dX7_set_67 : decode cX7_set 67 = .ok (.iastore, 1) := by decide +kernel
theorem dX7_set_68 : decode cX7_set 68 = .ok (.aload_n 0, 1) := by decide +kernel
theorem dX7_set_69 : decode cX7_set 69 = .ok (.iconst 0, 1) := by decide +kernel
theorem dX7_set_70 : decode cX7_set 70 = .ok (.putfield 54, 3) := by decide +kernel
theorem dX7_set_73 : decode cX7_set 73 = .ok (.iload 4, 2) := by decide +kernel
theorem dX7_set_75 : decode cX7_set 75 = .ok (.ireturn, 1) := by decide +kernel
theorem dX7_copy_0 : decode cX7_copy 0 = .ok (.iload_n 1, 1) := by decide +kernel
theorem dX7_copy_1 : decode cX7_copy 1 = .ok (.invokestatic 58, 3) := by decide +kernel
theorem dX7_copy_4 : decode cX7_copy 4 = .ok (.ifCond .eq 10, 3) := by decide +kernel
theorem dX7_copy_7 : decode cX7_copy 7 = .ok (.iload_n 3, 1) := by decide +kernel
theorem dX7_copy_8 : decode cX7_copy 8 = .ok (.invokestatic 58, 3) := by decide +kernel
theorem dX7_copy_11 : decode cX7_copy 11 = .ok (.ifCond .ne 6, 3) := by decide +kernel
theorem dX7_copy_14 : decode cX7_copy 14 = .ok (.ldc 62, 2) := by decide +kernel
theorem dX7_copy_16 : decode cX7_copy 16 = .ok (.ireturn, 1) := by decide +kernel
theorem dX7_copy_17 : decode cX7_copy 17 = .ok (.aload_n 0, 1) := by decide +kernel
theorem dX7_copy_18 : decode cX7_copy 18 = .ok (.getfield 7, 3) := by decide +kernel
theorem dX7_copy_21 : decode cX7_copy 21 = .ok (.iload_n 1, 1) := by decide +kernel
theorem dX7_copy_22 : decode cX7_copy 22 = .ok (.iaload, 1) := by decide +kernel
theorem dX7_copy_23 : decode cX7_copy 23 = .ok (.ifCond .lt 12, 3) := by decide +kernel
theorem dX7_copy_26 : decode cX7_copy 26 = .ok (.aload_n 0, 1) := by decide +kernel
theorem dX7_copy_27 : decode cX7_copy 27 = .ok (.getfield 7, 3) := by decide +kernel
theorem dX7_copy_30 : decode cX7_copy 30 = .ok (.iload_n 3, 1) := by decide +kernel
theorem dX7_copy_31 : decode cX7_copy 31 = .ok (.iaload, 1) := by decide +kernel
theorem dX7_copy_32 : decode cX7_copy 32 = .ok (.ifCond .ge 10, 3) := by decide +kernel
theorem dX7_copy_35 : decode cX7_copy 35 = .ok (.aload_n 0, 1) := by decide +kernel
theorem dX7_copy_36 : decode cX7_copy 36 = .ok (.ldc 52, 2) := by decide +kernel
theorem dX7_copy_38 : decode cX7_copy 38 = .ok (.invokevirtual 64, 3) := by decide +kernel
theorem dX7_copy_41 : decode cX7_copy 41 = .ok (.ireturn, 1) := by decide +kernel
theorem dX7_copy_42 : decode cX7_copy 42 = .ok (.aload_n 0, 1) := by decide +kernel
theorem dX7_copy_43 : decode cX7_copy 43 = .ok (.getfield 13, 3) := by decide +kernel
theorem dX7_copy_46 : decode cX7_copy 46 = .ok (.iload_n 1, 1) := by decide +kernel
theorem dX7_copy_47 : decode cX7_copy 47 = .ok (.iaload, 1) := by decide +kernel
theorem dX7_copy_48 : decode cX7_copy 48 = .ok (.aload_n 0, 1) := by decide +kernel
theorem dX7_copy_49 : decode cX7_copy 49 = .ok (.getfield 13, 3) := by decide +kernel
theorem dX7_copy_52 : decode cX7_copy 52 = .ok (.iload_n 3, 1) := by decide +kernel
theorem dX7_copy_53 : decode cX7_copy 53 = .ok (.iaload, 1) := by decide +kernel
theorem dX7_copy_54 : decode cX7_copy 54 = .ok (.if_icmp .eq 10, 3) := by decide +kernel
theorem dX7_copy_57 : decode cX7_copy 57 = .ok (.aload_n 0, 1) := by decide +kernel
theorem dX7_copy_58 : decode cX7_copy 58 = .ok (.ldc 51, 2) := by decide +kernel
theorem dX7_copy_60 : decode cX7_copy 60 = .ok (.invokevirtual 64, 3) := by decide +kernel
theorem dX7_copy_63 : decode cX7_copy 63 = .ok (.ireturn, 1) := by decide +kernel
theorem dX7_copy_64 : decode cX7_copy 64 = .ok (.aload_n 0, 1) := by decide +kernel
theorem dX7_copy_65 : decode cX7_copy 65 = .ok (.iload_n 1, 1) := by decide +kernel
theorem dX7_copy_66 : decode cX7_copy 66 = .ok (.iload_n 2, 1) := by decide +kernel
theorem dX7_copy_67 : decode cX7_copy 67 = .ok (.iload 5, 2) := by decide +kernel
theorem dX7_copy_69 : decode cX7_copy 69 = .ok (.invokevirtual 68, 3) := by decide +kernel
theorem dX7_copy_72 : decode cX7_copy 72 = .ok (.ifCond .eq 15, 3) := by decide +kernel
theorem dX7_copy_75 : decode cX7_copy 75 = .ok (.aload_n 0, 1) := by decide +kernel
theorem dX7_copy_76 : decode cX7_copy 76 = .ok (.iload_n 3, 1) := by decide +kernel
theorem dX7_copy_77 : decode cX7_copy 77 = .ok (.iload 4, 2) := by decide +kernel
theorem dX7_copy_79 : decode cX7_copy 79 = .ok (.iload 5, 2) := by decide +kernel
theorem dX7_copy_81 : decode cX7_copy 81 = .ok (.invokevirtual 68, 3) := by decide +kernel
theorem dX7_copy_84 : decode cX7_copy 84 = .ok (.ifCond .ne 10, 3) := by decide +kernel
theorem dX7_copy_87 : decode cX7_copy 87 = .ok (.aload_n 0, 1) := by decide +kernel
theorem dX7_copy_88 : decode cX7_copy 88 = .ok (.ldc 71, 2) := by decide +kernel
theorem dX7_copy_90 : decode cX7_copy 90 = .ok (.invokevirtual 64, 3) := by decide +kernel
theorem dX7_copy_93 : decode cX7_copy 93 = .ok (.ireturn, 1) := by decide +kernel
theorem dX7_copy_94 : decode cX7_copy 94 = .ok (.iconst 0, 1) := by decide +kernel
theorem dX7_copy_95 : decode cX7_copy 95 = .ok (.istore 6, 2) := by decide +kernel
theorem dX7_copy_97 : decode cX7_copy 97 = .ok (.iload 6, 2) := by decide +kernel
theorem dX7_copy_99 : decode cX7_copy 99 = .ok (.iload 5, 2) := by decide +kernel
theorem dX7_copy_101 : decode cX7_copy 101 = .ok (.if_icmp .ge 30, 3) := by decide +kernel
theorem dX7_copy_104 : decode cX7_copy 104 = .ok (.aload_n 0, 1) := by decide +kernel
theorem dX7_copy_105 : decode cX7_copy 105 = .ok (.getfield 19, 3) := by decide +kernel
theorem dX7_copy_108 : decode cX7_copy 108 = .ok (.iload 6, 2) := by decide +kernel
theorem dX7_copy_110 : decode cX7_copy 110 = .ok (.aload_n 0, 1) := by decide +kernel
theorem dX7_copy_111 : decode cX7_copy 111 = .ok (.getfield 16, 3) := by decide +kernel
theorem dX7_copy_114 : decode cX7_copy 114 = .ok (.bipush 40, 2) := by decide +kernel
theorem dX7_copy_116 : decode cX7_copy 116 = .ok (.iload_n 1, 1) := by decide +kernel
theorem dX7_copy_117 : decode cX7_copy 117 = .ok (.imul, 1) := by decide +kernel
theorem dX7_copy_118 : decode cX7_copy 118 = .ok (.iload_n 2, 1) := by decide +kernel
theorem dX7_copy_119 : decode cX7_copy 119 = .ok (.iadd, 1) := by decide +kernel
theorem dX7_copy_120 : decode cX7_copy 120 = .ok (.iload 6, 2) := by decide +kernel
theorem dX7_copy_122 : decode cX7_copy 122 = .ok (.iadd, 1) := by decide +kernel
theorem dX7_copy_123 : decode cX7_copy 123 = .ok (.iaload, 1) := by decide +kernel
theorem dX7_copy_124 : decode cX7_copy 124 = .ok (.iastore, 1) := by decide +kernel
theorem dX7_copy_125 : decode cX7_copy 125 = .ok (.iinc 6 1, 3) := by decide +kernel
theorem dX7_copy_128 : decode cX7_copy 128 = .ok (.goto (-31), 3) := by decide +kernel
theorem dX7_copy_131 : decode cX7_copy 131 = .ok (.iconst 0, 1) := by decide +kernel
theorem dX7_copy_132 : decode cX7_copy 132 = .ok (.istore 6, 2) := by decide +kernel
theorem dX7_copy_134 : decode cX7_copy 134 = .ok (.iload 6, 2) := by decide +kernel
theorem dX7_copy_136 : decode cX7_copy 136 = .ok (.iload 5, 2) := by decide +kernel
theorem dX7_copy_138 : decode cX7_copy 138 = .ok (.if_icmp .ge 31, 3) := by decide +kernel
theorem dX7_copy_141 : decode cX7_copy 141 = .ok (.aload_n 0, 1) := by decide +kernel
theorem dX7_copy_142 : decode cX7_copy 142 = .ok (.getfield 16, 3) := by decide +kernel
theorem dX7_copy_145 : decode cX7_copy 145 = .ok (.bipush 40, 2) := by decide +kernel
theorem dX7_copy_147 : decode cX7_copy 147 = .ok (.iload_n 3, 1) := by decide +kernel
theorem dX7_copy_148 : decode cX7_copy 148 = .ok (.imul, 1) := by decide +kernel
theorem dX7_copy_149 : decode cX7_copy 149 = .ok (.iload 4, 2) := by decide +kernel
theorem dX7_copy_151 : decode cX7_copy 151 = .ok (.iadd, 1) := by decide +kernel
theorem dX7_copy_152 : decode cX7_copy 152 = .ok (.iload 6, 2) := by decide +kernel
theorem dX7_copy_154 : decode cX7_copy 154 = .ok (.iadd, 1) := by decide +kernel
theorem dX7_copy_155 : decode cX7_copy 155 = .ok (.aload_n 0, 1) := by decide +kernel
theorem dX7_copy_156 : decode cX7_copy 156 = .ok (.getfield 19, 3) := by decide +kernel
theorem dX7_copy_159 : decode cX7_copy 159 = .ok (.iload 6, 2) := by decide +kernel
theorem dX7_copy_161 : decode cX7_copy 161 = .ok (.iaload, 1) := by decide +kernel
theorem dX7_copy_162 : decode cX7_copy 162 = .ok (.iastore, 1) := by decide +kernel
theorem dX7_copy_163 : decode cX7_copy 163 = .ok (.iinc 6 1, 3) := by decide +kernel
theorem dX7_copy_166 : decode cX7_copy 166 = .ok (.goto (-32), 3) := by decide +kernel
theorem dX7_copy_169 : decode cX7_copy 169 = .ok (.aload_n 0, 1) := by decide +kernel
theorem dX7_copy_170 : decode cX7_copy 170 = .ok (.iload 5, 2) := by decide +kernel
theorem dX7_copy_172 : decode cX7_copy 172 = .ok (.invokevirtual 64, 3) := by decide +kernel
theorem dX7_copy_175 : decode cX7_copy 175 = .ok (.ireturn, 1) := by decide +kernel
theorem dX7_drop_0 : decode cX7_drop 0 = .ok (.iload_n 1, 1) := by decide +kernel
theorem dX7_drop_1 : decode cX7_drop 1 = .ok (.invokestatic 58, 3) := by decide +kernel
theorem dX7_drop_4 : decode cX7_drop 4 = .ok (.ifCond .ne 6, 3) := by decide +kernel
theorem dX7_drop_7 : decode cX7_drop 7 = .ok (.ldc 62, 2) := by decide +kernel
theorem dX7_drop_9 : decode cX7_drop 9 = .ok (.ireturn, 1) := by decide +kernel
theorem dX7_drop_10 : decode cX7_drop 10 = .ok (.aload_n 0, 1) := by decide +kernel
theorem dX7_drop_11 : decode cX7_drop 11 = .ok (.getfield 7, 3) := by decide +kernel
theorem dX7_drop_14 : decode cX7_drop 14 = .ok (.iload_n 1, 1) := by decide +kernel
theorem dX7_drop_15 : decode cX7_drop 15 = .ok (.iaload, 1) := by decide +kernel
theorem dX7_drop_16 : decode cX7_drop 16 = .ok (.ifCond .ge 10, 3) := by decide +kernel
theorem dX7_drop_19 : decode cX7_drop 19 = .ok (.aload_n 0, 1) := by decide +kernel
theorem dX7_drop_20 : decode cX7_drop 20 = .ok (.ldc 52, 2) := by decide +kernel
theorem dX7_drop_22 : decode cX7_drop 22 = .ok (.invokevirtual 64, 3) := by decide +kernel
theorem dX7_drop_25 : decode cX7_drop 25 = .ok (.ireturn, 1) := by decide +kernel
theorem dX7_drop_26 : decode cX7_drop 26 = .ok (.aload_n 0, 1) := by decide +kernel
theorem dX7_drop_27 : decode cX7_drop 27 = .ok (.getfield 7, 3) := by decide +kernel
theorem dX7_drop_30 : decode cX7_drop 30 = .ok (.iload_n 1, 1) := by decide +kernel
theorem dX7_drop_31 : decode cX7_drop 31 = .ok (.iaload, 1) := by decide +kernel
theorem dX7_drop_32 : decode cX7_drop 32 = .ok (.istore_n 2, 1) := by decide +kernel
theorem dX7_drop_33 : decode cX7_drop 33 = .ok (.aload_n 0, 1) := by decide +kernel
theorem dX7_drop_34 : decode cX7_drop 34 = .ok (.getfield 7, 3) := by decide +kernel
theorem dX7_drop_37 : decode cX7_drop 37 = .ok (.iload_n 1, 1) := by decide +kernel
theorem dX7_drop_38 : decode cX7_drop 38 = .ok (.iconst (-1), 1) := by decide +kernel
theorem dX7_drop_39 : decode cX7_drop 39 = .ok (.iastore, 1) := by decide +kernel
theorem dX7_drop_40 : decode cX7_drop 40 = .ok (.aload_n 0, 1) := by decide +kernel
theorem dX7_drop_41 : decode cX7_drop 41 = .ok (.iload_n 2, 1) := by decide +kernel
theorem dX7_drop_42 : decode cX7_drop 42 = .ok (.invokevirtual 64, 3) := by decide +kernel
theorem dX7_drop_45 : decode cX7_drop 45 = .ok (.ireturn, 1) := by decide +kernel
theorem dX7_feed_0 : decode cX7_feed 0 = .ok (.iload_n 1, 1) := by decide +kernel
theorem dX7_feed_1 : decode cX7_feed 1 = .ok (.iconst 0, 1) := by decide +kernel
theorem dX7_feed_2 : decode cX7_feed 2 = .ok (.sipush 255, 3) := by decide +kernel
theorem dX7_feed_5 : decode cX7_feed 5 = .ok (.invokestatic 47, 3) := by decide +kernel
theorem dX7_feed_8 : decode cX7_feed 8 = .ok (.ifCond .ne 6, 3) := by decide +kernel
theorem dX7_feed_11 : decode cX7_feed 11 = .ok (.ldc 62, 2) := by decide +kernel
theorem dX7_feed_13 : decode cX7_feed 13 = .ok (.ireturn, 1) := by decide +kernel
theorem dX7_feed_14 : decode cX7_feed 14 = .ok (.aload_n 0, 1) := by decide +kernel
theorem dX7_feed_15 : decode cX7_feed 15 = .ok (.getfield 76, 3) := by decide +kernel
theorem dX7_feed_18 : decode cX7_feed 18 = .ok (.bipush 60, 2) := by decide +kernel
theorem dX7_feed_20 : decode cX7_feed 20 = .ok (.if_icmp .ne 6, 3) := by decide +kernel
theorem dX7_feed_23 : decode cX7_feed 23 = .ok (.ldc 79, 2) := by decide +kernel
theorem dX7_feed_25 : decode cX7_feed 25 = .ok (.ireturn, 1) := by decide +kernel
theorem dX7_feed_26 : decode cX7_feed 26 = .ok (.aload_n 0, 1) := by decide +kernel
theorem dX7_feed_27 : decode cX7_feed 27 = .ok (.getfield 22, 3) := by decide +kernel
theorem dX7_feed_30 : decode cX7_feed 30 = .ok (.aload_n 0, 1) := by decide +kernel
theorem dX7_feed_31 : decode cX7_feed 31 = .ok (.getfield 76, 3) := by decide +kernel
theorem dX7_feed_34 : decode cX7_feed 34 = .ok (.iload_n 1, 1) := by decide +kernel
theorem dX7_feed_35 : decode cX7_feed 35 = .ok (.iastore, 1) := by decide +kernel
theorem dX7_feed_36 : decode cX7_feed 36 = .ok (.aload_n 0, 1) := by decide +kernel
theorem dX7_feed_37 : decode cX7_feed 37 = .ok (.dup, 1) := by decide +kernel
theorem dX7_feed_38 : decode cX7_feed 38 = .ok (.getfield 76, 3) := by decide +kernel
theorem dX7_feed_41 : decode cX7_feed 41 = .ok (.iconst 1, 1) := by decide +kernel
theorem dX7_feed_42 : decode cX7_feed 42 = .ok (.iadd, 1) := by decide +kernel
theorem dX7_feed_43 : decode cX7_feed 43 = .ok (.putfield 76, 3) := by decide +kernel
theorem dX7_feed_46 : decode cX7_feed 46 = .ok (.aload_n 0, 1) := by decide +kernel
theorem dX7_feed_47 : decode cX7_feed 47 = .ok (.getfield 76, 3) := by decide +kernel
theorem dX7_feed_50 : decode cX7_feed 50 = .ok (.ireturn, 1) := by decide +kernel
theorem dX7_letterAt_0 : decode cX7_letterAt 0 = .ok (.iload_n 1, 1) := by decide +kernel
theorem dX7_letterAt_1 : decode cX7_letterAt 1 = .ok (.aload_n 0, 1) := by decide +kernel
theorem dX7_letterAt_2 : decode cX7_letterAt 2 = .ok (.getfield 76, 3) := by decide +kernel
theorem dX7_letterAt_5 : decode cX7_letterAt 5 = .ok (.if_icmp .ge 12, 3) := by decide +kernel
theorem dX7_letterAt_8 : decode cX7_letterAt 8 = .ok (.aload_n 0, 1) := by decide +kernel
theorem dX7_letterAt_9 : decode cX7_letterAt 9 = .ok (.getfield 22, 3) := by decide +kernel
theorem dX7_letterAt_12 : decode cX7_letterAt 12 = .ok (.iload_n 1, 1) := by decide +kernel
theorem dX7_letterAt_13 : decode cX7_letterAt 13 = .ok (.iaload, 1) := by decide +kernel
theorem dX7_letterAt_14 : decode cX7_letterAt 14 = .ok (.goto 4, 3) := by decide +kernel
theorem dX7_letterAt_17 : decode cX7_letterAt 17 = .ok (.iconst (-1), 1) := by decide +kernel
theorem dX7_letterAt_18 : decode cX7_letterAt 18 = .ok (.ireturn, 1) := by decide +kernel
theorem dX7_isDigit_0 : decode cX7_isDigit 0 = .ok (.iload_n 0, 1) := by decide +kernel
theorem dX7_isDigit_1 : decode cX7_isDigit 1 = .ok (.bipush 48, 2) := by decide +kernel
theorem dX7_isDigit_3 : decode cX7_isDigit 3 = .ok (.bipush 57, 2) := by decide +kernel
theorem dX7_isDigit_5 : decode cX7_isDigit 5 = .ok (.invokestatic 47, 3) := by decide +kernel
theorem dX7_isDigit_8 : decode cX7_isDigit 8 = .ok (.ireturn, 1) := by decide +kernel
theorem dX7_fails_0 : decode cX7_fails 0 = .ok (.aload_n 0, 1) := by decide +kernel
theorem dX7_fails_1 : decode cX7_fails 1 = .ok (.iload_n 1, 1) := by decide +kernel
theorem dX7_fails_2 : decode cX7_fails 2 = .ok (.putfield 80, 3) := by decide +kernel
theorem dX7_fails_5 : decode cX7_fails 5 = .ok (.iconst 0, 1) := by decide +kernel
theorem dX7_fails_6 : decode cX7_fails 6 = .ok (.ireturn, 1) := by decide +kernel
theorem dX7_reads_0 : decode cX7_reads 0 = .ok (.iconst 0, 1) := by decide +kernel
theorem dX7_reads_1 : decode cX7_reads 1 = .ok (.istore_n 2, 1) := by decide +kernel
theorem dX7_reads_2 : decode cX7_reads 2 = .ok (.iconst 0, 1) := by decide +kernel
theorem dX7_reads_3 : decode cX7_reads 3 = .ok (.istore_n 3, 1) := by decide +kernel
theorem dX7_reads_4 : decode cX7_reads 4 = .ok (.aload_n 0, 1) := by decide +kernel
theorem dX7_reads_5 : decode cX7_reads 5 = .ok (.aload_n 0, 1) := by decide +kernel
theorem dX7_reads_6 : decode cX7_reads 6 = .ok (.getfield 83, 3) := by decide +kernel
theorem dX7_reads_9 : decode cX7_reads 9 = .ok (.iload_n 2, 1) := by decide +kernel
theorem dX7_reads_10 : decode cX7_reads 10 = .ok (.iadd, 1) := by decide +kernel
theorem dX7_reads_11 : decode cX7_reads 11 = .ok (.invokevirtual 86, 3) := by decide +kernel
theorem dX7_reads_14 : decode cX7_reads 14 = .ok (.invokestatic 89, 3) := by decide +kernel
theorem dX7_reads_17 : decode cX7_reads 17 = .ok (.ifCond .eq 34, 3) := by decide +kernel
theorem dX7_reads_20 : decode cX7_reads 20 = .ok (.iload_n 2, 1) := by decide +kernel
theorem dX7_reads_21 : decode cX7_reads 21 = .ok (.iconst 3, 1) := by decide +kernel
theorem dX7_reads_22 : decode cX7_reads 22 = .ok (.if_icmp .ge 29, 3) := by decide +kernel
theorem dX7_reads_25 : decode cX7_reads 25 = .ok (.bipush 10, 2) := by decide +kernel
theorem dX7_reads_27 : decode cX7_reads 27 = .ok (.iload_n 3, 1) := by decide +kernel
theorem dX7_reads_28 : decode cX7_reads 28 = .ok (.imul, 1) := by decide +kernel
theorem dX7_reads_29 : decode cX7_reads 29 = .ok (.aload_n 0, 1) := by decide +kernel
theorem dX7_reads_30 : decode cX7_reads 30 = .ok (.getfield 22, 3) := by decide +kernel
theorem dX7_reads_33 : decode cX7_reads 33 = .ok (.aload_n 0, 1) := by decide +kernel
theorem dX7_reads_34 : decode cX7_reads 34 = .ok (.getfield 83, 3) := by decide +kernel
theorem dX7_reads_37 : decode cX7_reads 37 = .ok (.iload_n 2, 1) := by decide +kernel
theorem dX7_reads_38 : decode cX7_reads 38 = .ok (.iadd, 1) := by decide +kernel
theorem dX7_reads_39 : decode cX7_reads 39 = .ok (.iaload, 1) := by decide +kernel
theorem dX7_reads_40 : decode cX7_reads 40 = .ok (.iadd, 1) := by decide +kernel
theorem dX7_reads_41 : decode cX7_reads 41 = .ok (.bipush 48, 2) := by decide +kernel
theorem dX7_reads_43 : decode cX7_reads 43 = .ok (.isub, 1) := by decide +kernel
theorem dX7_reads_44 : decode cX7_reads 44 = .ok (.istore_n 3, 1) := by decide +kernel
theorem dX7_reads_45 : decode cX7_reads 45 = .ok (.iinc 2 1, 3) := by decide +kernel
theorem dX7_reads_48 : decode cX7_reads 48 = .ok (.goto (-44), 3) := by decide +kernel
theorem dX7_reads_51 : decode cX7_reads 51 = .ok (.iload_n 2, 1) := by decide +kernel
theorem dX7_reads_52 : decode cX7_reads 52 = .ok (.ifCond .eq 8, 3) := by decide +kernel
theorem dX7_reads_55 : decode cX7_reads 55 = .ok (.iload_n 2, 1) := by decide +kernel
theorem dX7_reads_56 : decode cX7_reads 56 = .ok (.iconst 3, 1) := by decide +kernel
theorem dX7_reads_57 : decode cX7_reads 57 = .ok (.if_icmp .ne 9, 3) := by decide +kernel
theorem dX7_reads_60 : decode cX7_reads 60 = .ok (.aload_n 0, 1) := by decide +kernel
theorem dX7_reads_61 : decode cX7_reads 61 = .ok (.iconst 1, 1) := by decide +kernel
theorem dX7_reads_62 : decode cX7_reads 62 = .ok (.invokevirtual 92, 3) := by decide +kernel
theorem dX7_reads_65 : decode cX7_reads 65 = .ok (.ireturn, 1) := by decide +kernel
theorem dX7_reads_66 : decode cX7_reads 66 = .ok (.iload_n 3, 1) := by decide +kernel
theorem dX7_reads_67 : decode cX7_reads 67 = .ok (.iconst 1, 1) := by decide +kernel
theorem dX7_reads_68 : decode cX7_reads 68 = .ok (.iconst 4, 1) := by decide +kernel
theorem dX7_reads_69 : decode cX7_reads 69 = .ok (.invokestatic 47, 3) := by decide +kernel
theorem dX7_reads_72 : decode cX7_reads 72 = .ok (.ifCond .ne 9, 3) := by decide +kernel
theorem dX7_reads_75 : decode cX7_reads 75 = .ok (.aload_n 0, 1) := by decide +kernel
theorem dX7_reads_76 : decode cX7_reads 76 = .ok (.iconst 2, 1) := by decide +kernel
theorem dX7_reads_77 : decode cX7_reads 77 = .ok (.invokevirtual 92, 3) := by decide +kernel
theorem dX7_reads_80 : decode cX7_reads 80 = .ok (.ireturn, 1) := by decide +kernel
theorem dX7_reads_81 : decode cX7_reads 81 = .ok (.aload_n 0, 1) := by decide +kernel
theorem dX7_reads_82 : decode cX7_reads 82 = .ok (.dup, 1) := by decide +kernel
theorem dX7_reads_83 : decode cX7_reads 83 = .ok (.getfield 83, 3) := by decide +kernel
theorem dX7_reads_86 : decode cX7_reads 86 = .ok (.iload_n 2, 1) := by decide +kernel
theorem dX7_reads_87 : decode cX7_reads 87 = .ok (.iadd, 1) := by decide +kernel
theorem dX7_reads_88 : decode cX7_reads 88 = .ok (.putfield 83, 3) := by decide +kernel
theorem dX7_reads_91 : decode cX7_reads 91 = .ok (.aload_n 0, 1) := by decide +kernel
theorem dX7_reads_92 : decode cX7_reads 92 = .ok (.getfield 28, 3) := by decide +kernel
theorem dX7_reads_95 : decode cX7_reads 95 = .ok (.iload_n 1, 1) := by decide +kernel
theorem dX7_reads_96 : decode cX7_reads 96 = .ok (.iload_n 3, 1) := by decide +kernel
theorem dX7_reads_97 : decode cX7_reads 97 = .ok (.iastore, 1) := by decide +kernel
theorem dX7_reads_98 : decode cX7_reads 98 = .ok (.iconst 1, 1) := by decide +kernel
theorem dX7_reads_99 : decode cX7_reads 99 = .ok (.ireturn, 1) := by decide +kernel
theorem dX7_kindBy_0 : decode cX7_kindBy 0 = .ok (.iload_n 0, 1) := by decide +kernel
theorem dX7_kindBy_1 : decode cX7_kindBy 1 = .ok (.bipush 112, 2) := by decide +kernel
theorem dX7_kindBy_3 : decode cX7_kindBy 3 = .ok (.if_icmp .ne 7, 3) := by decide +kernel
theorem dX7_kindBy_6 : decode cX7_kindBy 6 = .ok (.iconst 1, 1) := by decide +kernel
theorem dX7_kindBy_7 : decode cX7_kindBy 7 = .ok (.goto 44, 3) := by decide +kernel
theorem dX7_kindBy_10 : decode cX7_kindBy 10 = .ok (.iload_n 0, 1) := by decide +kernel
theorem dX7_kindBy_11 : decode cX7_kindBy 11 = .ok (.bipush 104, 2) := by decide +kernel
theorem dX7_kindBy_13 : decode cX7_kindBy 13 = .ok (.if_icmp .ne 7, 3) := by decide +kernel
theorem dX7_kindBy_16 : decode cX7_kindBy 16 = .ok (.iconst 2, 1) := by decide +kernel
theorem dX7_kindBy_17 : decode cX7_kindBy 17 = .ok (.goto 34, 3) := by decide +kernel
theorem dX7_kindBy_20 : decode cX7_kindBy 20 = .ok (.iload_n 0, 1) := by decide +kernel
theorem dX7_kindBy_21 : decode cX7_kindBy 21 = .ok (.bipush 115, 2) := by decide +kernel
theorem dX7_kindBy_23 : decode cX7_kindBy 23 = .ok (.if_icmp .ne 7, 3) := by decide +kernel
theorem dX7_kindBy_26 : decode cX7_kindBy 26 = .ok (.iconst 3, 1) := by decide +kernel
theorem dX7_kindBy_27 : decode cX7_kindBy 27 = .ok (.goto 24, 3) := by decide +kernel
theorem dX7_kindBy_30 : decode cX7_kindBy 30 = .ok (.iload_n 0, 1) := by decide +kernel
theorem dX7_kindBy_31 : decode cX7_kindBy 31 = .ok (.bipush 100, 2) := by decide +kernel
theorem dX7_kindBy_33 : decode cX7_kindBy 33 = .ok (.if_icmp .ne 7, 3) := by decide +kernel
theorem dX7_kindBy_36 : decode cX7_kindBy 36 = .ok (.iconst 4, 1) := by decide +kernel
theorem dX7_kindBy_37 : decode cX7_kindBy 37 = .ok (.goto 14, 3) := by decide +kernel
theorem dX7_kindBy_40 : decode cX7_kindBy 40 = .ok (.iload_n 0, 1) := by decide +kernel
theorem dX7_kindBy_41 : decode cX7_kindBy 41 = .ok (.bipush 98, 2) := by decide +kernel
theorem dX7_kindBy_43 : decode cX7_kindBy 43 = .ok (.if_icmp .ne 7, 3) := by decide +kernel
theorem dX7_kindBy_46 : decode cX7_kindBy 46 = .ok (.iconst 5, 1) := by decide +kernel
theorem dX7_kindBy_47 : decode cX7_kindBy 47 = .ok (.goto 4, 3) := by decide +kernel
theorem dX7_kindBy_50 : decode cX7_kindBy 50 = .ok (.iconst 0, 1) := by decide +kernel
theorem dX7_kindBy_51 : decode cX7_kindBy 51 = .ok (.ireturn, 1) := by decide +kernel
theorem dX7_readsAll_0 : decode cX7_readsAll 0 = .ok (.aload_n 0, 1) := by decide +kernel
theorem dX7_readsAll_1 : decode cX7_readsAll 1 = .ok (.iconst 0, 1) := by decide +kernel
theorem dX7_readsAll_2 : decode cX7_readsAll 2 = .ok (.putfield 83, 3) := by decide +kernel
theorem dX7_readsAll_5 : decode cX7_readsAll 5 = .ok (.aload_n 0, 1) := by decide +kernel
theorem dX7_readsAll_6 : decode cX7_readsAll 6 = .ok (.getfield 83, 3) := by decide +kernel
theorem dX7_readsAll_9 : decode cX7_readsAll 9 = .ok (.aload_n 0, 1) := by decide +kernel
theorem dX7_readsAll_10 : decode cX7_readsAll 10 = .ok (.getfield 76, 3) := by decide +kernel
theorem dX7_readsAll_13 : decode cX7_readsAll 13 = .ok (.if_icmp .lt 13, 3) := by decide +kernel
theorem dX7_readsAll_16 : decode cX7_readsAll 16 = .ok (.aload_n 0, 1) := by decide +kernel
theorem dX7_readsAll_17 : decode cX7_readsAll 17 = .ok (.getfield 28, 3) := by decide +kernel
theorem dX7_readsAll_20 : decode cX7_readsAll 20 = .ok (.bipush 46, 2) := by decide +kernel
theorem dX7_readsAll_22 : decode cX7_readsAll 22 = .ok (.iaload, 1) := by decide +kernel
theorem dX7_readsAll_23 : decode cX7_readsAll 23 = .ok (.ifCond .ne 140, 3) := by decide +kernel
theorem dX7_readsAll_26 : decode cX7_readsAll 26 = .ok (.aload_n 0, 1) := by decide +kernel
theorem dX7_readsAll_27 : decode cX7_readsAll 27 = .ok (.aload_n 0, 1) := by decide +kernel
theorem dX7_readsAll_28 : decode cX7_readsAll 28 = .ok (.getfield 83, 3) := by decide +kernel
theorem dX7_readsAll_31 : decode cX7_readsAll 31 = .ok (.invokevirtual 86, 3) := by decide +kernel
theorem dX7_readsAll_34 : decode cX7_readsAll 34 = .ok (.invokestatic 95, 3) := by decide +kernel
theorem dX7_readsAll_37 : decode cX7_readsAll 37 = .ok (.istore_n 1, 1) := by decide +kernel
theorem dX7_readsAll_38 : decode cX7_readsAll 38 = .ok (.iload_n 1, 1) := by decide +kernel
theorem dX7_readsAll_39 : decode cX7_readsAll 39 = .ok (.ifCond .ne 9, 3) := by decide +kernel
theorem dX7_readsAll_42 : decode cX7_readsAll 42 = .ok (.aload_n 0, 1) := by decide +kernel
theorem dX7_readsAll_43 : decode cX7_readsAll 43 = .ok (.iconst 1, 1) := by decide +kernel
theorem dX7_readsAll_44 : decode cX7_readsAll 44 = .ok (.invokevirtual 92, 3) := by decide +kernel
theorem dX7_readsAll_47 : decode cX7_readsAll 47 = .ok (.ireturn, 1) := by decide +kernel
theorem dX7_readsAll_48 : decode cX7_readsAll 48 = .ok (.aload_n 0, 1) := by decide +kernel
theorem dX7_readsAll_49 : decode cX7_readsAll 49 = .ok (.getfield 28, 3) := by decide +kernel
theorem dX7_readsAll_52 : decode cX7_readsAll 52 = .ok (.bipush 46, 2) := by decide +kernel
theorem dX7_readsAll_54 : decode cX7_readsAll 54 = .ok (.iaload, 1) := by decide +kernel
theorem dX7_readsAll_55 : decode cX7_readsAll 55 = .ok (.istore_n 2, 1) := by decide +kernel
theorem dX7_readsAll_56 : decode cX7_readsAll 56 = .ok (.iload_n 2, 1) := by decide +kernel
theorem dX7_readsAll_57 : decode cX7_readsAll 57 = .ok (.bipush 8, 2) := by decide +kernel
theorem dX7_readsAll_59 : decode cX7_readsAll 59 = .ok (.if_icmp .ne 9, 3) := by decide +kernel
theorem dX7_readsAll_62 : decode cX7_readsAll 62 = .ok (.aload_n 0, 1) := by decide +kernel
theorem dX7_readsAll_63 : decode cX7_readsAll 63 = .ok (.iconst 3, 1) := by decide +kernel
theorem dX7_readsAll_64 : decode cX7_readsAll 64 = .ok (.invokevirtual 92, 3) := by decide +kernel
theorem dX7_readsAll_67 : decode cX7_readsAll 67 = .ok (.ireturn, 1) := by decide +kernel
theorem dX7_readsAll_68 : decode cX7_readsAll 68 = .ok (.aload_n 0, 1) := by decide +kernel
theorem dX7_readsAll_69 : decode cX7_readsAll 69 = .ok (.dup, 1) := by decide +kernel
theorem dX7_readsAll_70 : decode cX7_readsAll 70 = .ok (.getfield 83, 3) := by decide +kernel
theorem dX7_readsAll_73 : decode cX7_readsAll 73 = .ok (.iconst 1, 1) := by decide +kernel
theorem dX7_readsAll_74 : decode cX7_readsAll 74 = .ok (.iadd, 1) := by decide +kernel
theorem dX7_readsAll_75 : decode cX7_readsAll 75 = .ok (.putfield 83, 3) := by decide +kernel
theorem dX7_readsAll_78 : decode cX7_readsAll 78 = .ok (.aload_n 0, 1) := by decide +kernel
theorem dX7_readsAll_79 : decode cX7_readsAll 79 = .ok (.getfield 28, 3) := by decide +kernel
theorem dX7_readsAll_82 : decode cX7_readsAll 82 = .ok (.bipush 55, 2) := by decide +kernel
theorem dX7_readsAll_84 : decode cX7_readsAll 84 = .ok (.iload_n 2, 1) := by decide +kernel
theorem dX7_readsAll_85 : decode cX7_readsAll 85 = .ok (.iadd, 1) := by decide +kernel
theorem dX7_readsAll_86 : decode cX7_readsAll 86 = .ok (.iload_n 1, 1) := by decide +kernel
theorem dX7_readsAll_87 : decode cX7_readsAll 87 = .ok (.iastore, 1) := by decide +kernel
theorem dX7_readsAll_88 : decode cX7_readsAll 88 = .ok (.aload_n 0, 1) := by decide +kernel
theorem dX7_readsAll_89 : decode cX7_readsAll 89 = .ok (.getfield 28, 3) := by decide +kernel
theorem dX7_readsAll_92 : decode cX7_readsAll 92 = .ok (.iconst 2, 1) := by decide +kernel
theorem dX7_readsAll_93 : decode cX7_readsAll 93 = .ok (.iload_n 2, 1) := by decide +kernel
theorem dX7_readsAll_94 : decode cX7_readsAll 94 = .ok (.iadd, 1) := by decide +kernel
theorem dX7_readsAll_95 : decode cX7_readsAll 95 = .ok (.iconst (-1), 1) := by decide +kernel
theorem dX7_readsAll_96 : decode cX7_readsAll 96 = .ok (.iastore, 1) := by decide +kernel
theorem dX7_readsAll_97 : decode cX7_readsAll 97 = .ok (.aload_n 0, 1) := by decide +kernel
theorem dX7_readsAll_98 : decode cX7_readsAll 98 = .ok (.getfield 28, 3) := by decide +kernel
theorem dX7_readsAll_101 : decode cX7_readsAll 101 = .ok (.bipush 18, 2) := by decide +kernel
theorem dX7_readsAll_103 : decode cX7_readsAll 103 = .ok (.iload_n 2, 1) := by decide +kernel
theorem dX7_readsAll_104 : decode cX7_readsAll 104 = .ok (.iadd, 1) := by decide +kernel
theorem dX7_readsAll_105 : decode cX7_readsAll 105 = .ok (.iload_n 2, 1) := by decide +kernel
theorem dX7_readsAll_106 : decode cX7_readsAll 106 = .ok (.iastore, 1) := by decide +kernel
theorem dX7_readsAll_107 : decode cX7_readsAll 107 = .ok (.aload_n 0, 1) := by decide +kernel
theorem dX7_readsAll_108 : decode cX7_readsAll 108 = .ok (.bipush 47, 2) := by decide +kernel
theorem dX7_readsAll_110 : decode cX7_readsAll 110 = .ok (.iload_n 2, 1) := by decide +kernel
theorem dX7_readsAll_111 : decode cX7_readsAll 111 = .ok (.iadd, 1) := by decide +kernel
theorem dX7_readsAll_112 : decode cX7_readsAll 112 = .ok (.invokevirtual 98, 3) := by decide +kernel
theorem dX7_readsAll_115 : decode cX7_readsAll 115 = .ok (.ifCond .ne 5, 3) := by decide +kernel
theorem dX7_readsAll_118 : decode cX7_readsAll 118 = .ok (.iconst 0, 1) := by decide +kernel
theorem dX7_readsAll_119 : decode cX7_readsAll 119 = .ok (.ireturn, 1) := by decide +kernel
theorem dX7_readsAll_120 : decode cX7_readsAll 120 = .ok (.aload_n 0, 1) := by decide +kernel
theorem dX7_readsAll_121 : decode cX7_readsAll 121 = .ok (.aload_n 0, 1) := by decide +kernel
theorem dX7_readsAll_122 : decode cX7_readsAll 122 = .ok (.getfield 83, 3) := by decide +kernel
theorem dX7_readsAll_125 : decode cX7_readsAll 125 = .ok (.invokevirtual 86, 3) := by decide +kernel
theorem dX7_readsAll_128 : decode cX7_readsAll 128 = .ok (.bipush 59, 2) := by decide +kernel
theorem dX7_readsAll_130 : decode cX7_readsAll 130 = .ok (.if_icmp .eq 9, 3) := by decide +kernel
theorem dX7_readsAll_133 : decode cX7_readsAll 133 = .ok (.aload_n 0, 1) := by decide +kernel
theorem dX7_readsAll_134 : decode cX7_readsAll 134 = .ok (.iconst 1, 1) := by decide +kernel
theorem dX7_readsAll_135 : decode cX7_readsAll 135 = .ok (.invokevirtual 92, 3) := by decide +kernel
theorem dX7_readsAll_138 : decode cX7_readsAll 138 = .ok (.ireturn, 1) := by decide +kernel
theorem dX7_readsAll_139 : decode cX7_readsAll 139 = .ok (.aload_n 0, 1) := by decide +kernel
theorem dX7_readsAll_140 : decode cX7_readsAll 140 = .ok (.dup, 1) := by decide +kernel
theorem dX7_readsAll_141 : decode cX7_readsAll 141 = .ok (.getfield 83, 3) := by decide +kernel
theorem dX7_readsAll_144 : decode cX7_readsAll 144 = .ok (.iconst 1, 1) := by decide +kernel
theorem dX7_readsAll_145 : decode cX7_readsAll 145 = .ok (.iadd, 1) := by decide +kernel
theorem dX7_readsAll_146 : decode cX7_readsAll 146 = .ok (.putfield 83, 3) := by decide +kernel
theorem dX7_readsAll_149 : decode cX7_readsAll 149 = .ok (.aload_n 0, 1) := by decide +kernel
theorem dX7_readsAll_150 : decode cX7_readsAll 150 = .ok (.getfield 28, 3) := by decide +kernel
theorem dX7_readsAll_153 : decode cX7_readsAll 153 = .ok (.bipush 46, 2) := by decide +kernel
theorem dX7_readsAll_155 : decode cX7_readsAll 155 = .ok (.dup2, 1) := by decide +kernel
theorem dX7_readsAll_156 : decode cX7_readsAll 156 = .ok (.iaload, 1) := by decide +kernel
theorem dX7_readsAll_157 : decode cX7_readsAll 157 = .ok (.iconst 1, 1) := by decide +kernel
theorem dX7_readsAll_158 : decode cX7_readsAll 158 = .ok (.iadd, 1) := by decide +kernel
theorem dX7_readsAll_159 : decode cX7_readsAll 159 = .ok (.iastore, 1) := by decide +kernel
theorem dX7_readsAll_160 : decode cX7_readsAll 160 = .ok (.goto (-155), 3) := by decide +kernel
theorem dX7_readsAll_163 : decode cX7_readsAll 163 = .ok (.iconst 1, 1) := by decide +kernel
theorem dX7_readsAll_164 : decode cX7_readsAll 164 = .ok (.ireturn, 1) := by decide +kernel
theorem dX7_basket_0 : decode cX7_basket 0 = .ok (.iconst 0, 1) := by decide +kernel
theorem dX7_basket_1 : decode cX7_basket 1 = .ok (.istore_n 1, 1) := by decide +kernel
theorem dX7_basket_2 : decode cX7_basket 2 = .ok (.iload_n 1, 1) := by decide +kernel
theorem dX7_basket_3 : decode cX7_basket 3 = .ok (.bipush 63, 2) := by decide +kernel
theorem dX7_basket_5 : decode cX7_basket 5 = .ok (.if_icmp .ge 16, 3) := by decide +kernel
theorem dX7_basket_8 : decode cX7_basket 8 = .ok (.aload_n 0, 1) := by decide +kernel
theorem dX7_basket_9 : decode cX7_basket 9 = .ok (.getfield 28, 3) := by decide +kernel
theorem dX7_basket_12 : decode cX7_basket 12 = .ok (.iload_n 1, 1) := by decide +kernel
theorem dX7_basket_13 : decode cX7_basket 13 = .ok (.iconst 0, 1) := by decide +kernel
theorem dX7_basket_14 : decode cX7_basket 14 = .ok (.iastore, 1) := by decide +kernel
theorem dX7_basket_15 : decode cX7_basket 15 = .ok (.iinc 1 1, 3) := by decide +kernel
theorem dX7_basket_18 : decode cX7_basket 18 = .ok (.goto (-16), 3) := by decide +kernel
theorem dX7_basket_21 : decode cX7_basket 21 = .ok (.aload_n 0, 1) := by decide +kernel
theorem dX7_basket_22 : decode cX7_basket 22 = .ok (.invokevirtual 101, 3) := by decide +kernel
theorem dX7_basket_25 : decode cX7_basket 25 = .ok (.istore_n 1, 1) := by decide +kernel
theorem dX7_basket_26 : decode cX7_basket 26 = .ok (.aload_n 0, 1) := by decide +kernel
theorem dX7_basket_27 : decode cX7_basket 27 = .ok (.iconst 0, 1) := by decide +kernel
theorem dX7_basket_28 : decode cX7_basket 28 = .ok (.putfield 76, 3) := by decide +kernel
theorem dX7_basket_31 : decode cX7_basket 31 = .ok (.iload_n 1, 1) := by decide +kernel
theorem dX7_basket_32 : decode cX7_basket 32 = .ok (.ifCond .ne 19, 3) := by decide +kernel
theorem dX7_basket_35 : decode cX7_basket 35 = .ok (.aload_n 0, 1) := by decide +kernel
theorem dX7_basket_36 : decode cX7_basket 36 = .ok (.aload_n 0, 1) := by decide +kernel
theorem dX7_basket_37 : decode cX7_basket 37 = .ok (.getfield 80, 3) := by decide +kernel
theorem dX7_basket_40 : decode cX7_basket 40 = .ok (.putfield 105, 3) := by decide +kernel
theorem dX7_basket_43 : decode cX7_basket 43 = .ok (.ldc 108, 2) := by decide +kernel
theorem dX7_basket_45 : decode cX7_basket 45 = .ok (.aload_n 0, 1) := by decide +kernel
theorem dX7_basket_46 : decode cX7_basket 46 = .ok (.getfield 83, 3) := by decide +kernel
theorem dX7_basket_49 : decode cX7_basket 49 = .ok (.isub, 1) := by decide +kernel
theorem dX7_basket_50 : decode cX7_basket 50 = .ok (.ireturn, 1) := by decide +kernel
theorem dX7_basket_51 : decode cX7_basket 51 = .ok (.iconst 0, 1) := by decide +kernel
theorem dX7_basket_52 : decode cX7_basket 52 = .ok (.istore_n 2, 1) := by decide +kernel
theorem dX7_basket_53 : decode cX7_basket 53 = .ok (.iload_n 2, 1) := by decide +kernel
theorem dX7_basket_54 : decode cX7_basket 54 = .ok (.bipush 63, 2) := by decide +kernel
theorem dX7_basket_56 : decode cX7_basket 56 = .ok (.if_icmp .ge 21, 3) := by decide +kernel
theorem dX7_basket_59 : decode cX7_basket 59 = .ok (.aload_n 0, 1) := by decide +kernel
theorem dX7_basket_60 : decode cX7_basket 60 = .ok (.getfield 25, 3) := by decide +kernel
theorem dX7_basket_63 : decode cX7_basket 63 = .ok (.iload_n 2, 1) := by decide +kernel
theorem dX7_basket_64 : decode cX7_basket 64 = .ok (.aload_n 0, 1) := by decide +kernel
theorem dX7_basket_65 : decode cX7_basket 65 = .ok (.getfield 28, 3) := by decide +kernel
theorem dX7_basket_68 : decode cX7_basket 68 = .ok (.iload_n 2, 1) := by decide +kernel
theorem dX7_basket_69 : decode cX7_basket 69 = .ok (.iaload, 1) := by decide +kernel
theorem dX7_basket_70 : decode cX7_basket 70 = .ok (.iastore, 1) := by decide +kernel
theorem dX7_basket_71 : decode cX7_basket 71 = .ok (.iinc 2 1, 3) := by decide +kernel
theorem dX7_basket_74 : decode cX7_basket 74 = .ok (.goto (-21), 3) := by decide +kernel
theorem dX7_basket_77 : decode cX7_basket 77 = .ok (.aload_n 0, 1) := by decide +kernel
theorem dX7_basket_78 : decode cX7_basket 78 = .ok (.iconst 0, 1) := by decide +kernel
theorem dX7_basket_79 : decode cX7_basket 79 = .ok (.putfield 109, 3) := by decide +kernel
theorem dX7_basket_82 : decode cX7_basket 82 = .ok (.aload_n 0, 1) := by decide +kernel
theorem dX7_basket_83 : decode cX7_basket 83 = .ok (.getfield 25, 3) := by decide +kernel
theorem dX7_basket_86 : decode cX7_basket 86 = .ok (.bipush 46, 2) := by decide +kernel
theorem dX7_basket_88 : decode cX7_basket 88 = .ok (.iaload, 1) := by decide +kernel
theorem dX7_basket_89 : decode cX7_basket 89 = .ok (.ireturn, 1) := by decide +kernel
theorem dX7_fault_0 : decode cX7_fault 0 = .ok (.aload_n 0, 1) := by decide +kernel
theorem dX7_fault_1 : decode cX7_fault 1 = .ok (.getfield 105, 3) := by decide +kernel
theorem dX7_fault_4 : decode cX7_fault 4 = .ok (.ireturn, 1) := by decide +kernel
theorem dX7_isBasket_0 : decode cX7_isBasket 0 = .ok (.aload_n 0, 1) := by decide +kernel
theorem dX7_isBasket_1 : decode cX7_isBasket 1 = .ok (.getfield 25, 3) := by decide +kernel
theorem dX7_isBasket_4 : decode cX7_isBasket 4 = .ok (.bipush 46, 2) := by decide +kernel
theorem dX7_isBasket_6 : decode cX7_isBasket 6 = .ok (.iaload, 1) := by decide +kernel
theorem dX7_isBasket_7 : decode cX7_isBasket 7 = .ok (.ifCond .le 7, 3) := by decide +kernel
theorem dX7_isBasket_10 : decode cX7_isBasket 10 = .ok (.iconst 1, 1) := by decide +kernel
theorem dX7_isBasket_11 : decode cX7_isBasket 11 = .ok (.goto 4, 3) := by decide +kernel
theorem dX7_isBasket_14 : decode cX7_isBasket 14 = .ok (.iconst 0, 1) := by decide +kernel
theorem dX7_isBasket_15 : decode cX7_isBasket 15 = .ok (.ireturn, 1) := by decide +kernel
theorem dX7_isBar_0 : decode cX7_isBar 0 = .ok (.iload_n 1, 1) := by decide +kernel
theorem dX7_isBar_1 : decode cX7_isBar 1 = .ok (.iconst 0, 1) := by decide +kernel
theorem dX7_isBar_2 : decode cX7_isBar 2 = .ok (.aload_n 0, 1) := by decide +kernel
theorem dX7_isBar_3 : decode cX7_isBar 3 = .ok (.getfield 25, 3) := by decide +kernel
theorem dX7_isBar_6 : decode cX7_isBar 6 = .ok (.bipush 46, 2) := by decide +kernel
theorem dX7_isBar_8 : decode cX7_isBar 8 = .ok (.iaload, 1) := by decide +kernel
theorem dX7_isBar_9 : decode cX7_isBar 9 = .ok (.iconst 1, 1) := by decide +kernel
theorem dX7_isBar_10 : decode cX7_isBar 10 = .ok (.isub, 1) := by decide +kernel
theorem dX7_isBar_11 : decode cX7_isBar 11 = .ok (.invokestatic 47, 3) := by decide +kernel
theorem dX7_isBar_14 : decode cX7_isBar 14 = .ok (.ireturn, 1) := by decide +kernel
theorem dX7_keeps_0 : decode cX7_keeps 0 = .ok (.aload_n 0, 1) := by decide +kernel
theorem dX7_keeps_1 : decode cX7_keeps 1 = .ok (.getfield 109, 3) := by decide +kernel
theorem dX7_keeps_4 : decode cX7_keeps 4 = .ok (.bipush 24, 2) := by decide +kernel
theorem dX7_keeps_6 : decode cX7_keeps 6 = .ok (.if_icmp .ne 43, 3) := by decide +kernel
theorem dX7_keeps_9 : decode cX7_keeps 9 = .ok (.iconst 0, 1) := by decide +kernel
theorem dX7_keeps_10 : decode cX7_keeps 10 = .ok (.istore_n 1, 1) := by decide +kernel
theorem dX7_keeps_11 : decode cX7_keeps 11 = .ok (.iload_n 1, 1) := by decide +kernel
theorem dX7_keeps_12 : decode cX7_keeps 12 = .ok (.sipush 1058, 3) := by decide +kernel
theorem dX7_keeps_15 : decode cX7_keeps 15 = .ok (.if_icmp .ge 24, 3) := by decide +kernel
theorem dX7_keeps_18 : decode cX7_keeps 18 = .ok (.aload_n 0, 1) := by decide +kernel
theorem dX7_keeps_19 : decode cX7_keeps 19 = .ok (.getfield 38, 3) := by decide +kernel
theorem dX7_keeps_22 : decode cX7_keeps 22 = .ok (.iload_n 1, 1) := by decide +kernel
theorem dX7_keeps_23 : decode cX7_keeps 23 = .ok (.aload_n 0, 1) := by decide +kernel
theorem dX7_keeps_24 : decode cX7_keeps 24 = .ok (.getfield 38, 3) := by decide +kernel
theorem dX7_keeps_27 : decode cX7_keeps 27 = .ok (.iload_n 1, 1) := by decide +kernel
theorem dX7_keeps_28 : decode cX7_keeps 28 = .ok (.bipush 46, 2) := by decide +kernel
theorem dX7_keeps_30 : decode cX7_keeps 30 = .ok (.iadd, 1) := by decide +kernel
theorem dX7_keeps_31 : decode cX7_keeps 31 = .ok (.iaload, 1) := by decide +kernel
theorem dX7_keeps_32 : decode cX7_keeps 32 = .ok (.iastore, 1) := by decide +kernel
theorem dX7_keeps_33 : decode cX7_keeps 33 = .ok (.iinc 1 1, 3) := by decide +kernel
theorem dX7_keeps_36 : decode cX7_keeps 36 = .ok (.goto (-25), 3) := by decide +kernel
theorem dX7_keeps_39 : decode cX7_keeps 39 = .ok (.aload_n 0, 1) := by decide +kernel
theorem dX7_keeps_40 : decode cX7_keeps 40 = .ok (.dup, 1) := by decide +kernel
theorem dX7_keeps_41 : decode cX7_keeps 41 = .ok (.getfield 109, 3) := by decide +kernel
theorem dX7_keeps_44 : decode cX7_keeps 44 = .ok (.iconst 1, 1) := by decide +kernel
theorem dX7_keeps_45 : decode cX7_keeps 45 = .ok (.isub, 1) := by decide +kernel
theorem dX7_keeps_46 : decode cX7_keeps 46 = .ok (.putfield 109, 3) := by decide +kernel
theorem dX7_keeps_49 : decode cX7_keeps 49 = .ok (.iconst 0, 1) := by decide +kernel
theorem dX7_keeps_50 : decode cX7_keeps 50 = .ok (.istore_n 1, 1) := by decide +kernel
theorem dX7_keeps_51 : decode cX7_keeps 51 = .ok (.iload_n 1, 1) := by decide +kernel
theorem dX7_keeps_52 : decode cX7_keeps 52 = .ok (.bipush 46, 2) := by decide +kernel
theorem dX7_keeps_54 : decode cX7_keeps 54 = .ok (.if_icmp .ge 29, 3) := by decide +kernel
theorem dX7_keeps_57 : decode cX7_keeps 57 = .ok (.aload_n 0, 1) := by decide +kernel
theorem dX7_keeps_58 : decode cX7_keeps 58 = .ok (.getfield 38, 3) := by decide +kernel
theorem dX7_keeps_61 : decode cX7_keeps 61 = .ok (.bipush 46, 2) := by decide +kernel
theorem dX7_keeps_63 : decode cX7_keeps 63 = .ok (.aload_n 0, 1) := by decide +kernel
theorem dX7_keeps_64 : decode cX7_keeps 64 = .ok (.getfield 109, 3) := by decide +kernel
theorem dX7_keeps_67 : decode cX7_keeps 67 = .ok (.imul, 1) := by decide +kernel
theorem dX7_keeps_68 : decode cX7_keeps 68 = .ok (.iload_n 1, 1) := by decide +kernel
theorem dX7_keeps_69 : decode cX7_keeps 69 = .ok (.iadd, 1) := by decide +kernel
theorem dX7_keeps_70 : decode cX7_keeps 70 = .ok (.aload_n 0, 1) := by decide +kernel
theorem dX7_keeps_71 : decode cX7_keeps 71 = .ok (.getfield 25, 3) := by decide +kernel
theorem dX7_keeps_74 : decode cX7_keeps 74 = .ok (.iload_n 1, 1) := by decide +kernel
theorem dX7_keeps_75 : decode cX7_keeps 75 = .ok (.iaload, 1) := by decide +kernel
theorem dX7_keeps_76 : decode cX7_keeps 76 = .ok (.iastore, 1) := by decide +kernel
theorem dX7_keeps_77 : decode cX7_keeps 77 = .ok (.iinc 1 1, 3) := by decide +kernel
theorem dX7_keeps_80 : decode cX7_keeps 80 = .ok (.goto (-29), 3) := by decide +kernel
theorem dX7_keeps_83 : decode cX7_keeps 83 = .ok (.aload_n 0, 1) := by decide +kernel
theorem dX7_keeps_84 : decode cX7_keeps 84 = .ok (.dup, 1) := by decide +kernel
theorem dX7_keeps_85 : decode cX7_keeps 85 = .ok (.getfield 109, 3) := by decide +kernel
theorem dX7_keeps_88 : decode cX7_keeps 88 = .ok (.iconst 1, 1) := by decide +kernel
theorem dX7_keeps_89 : decode cX7_keeps 89 = .ok (.iadd, 1) := by decide +kernel
theorem dX7_keeps_90 : decode cX7_keeps 90 = .ok (.putfield 109, 3) := by decide +kernel
theorem dX7_keeps_93 : decode cX7_keeps 93 = .ok (.return_, 1) := by decide +kernel
theorem dX7_top_0 : decode cX7_top 0 = .ok (.aload_n 0, 1) := by decide +kernel
theorem dX7_top_1 : decode cX7_top 1 = .ok (.bipush 47, 2) := by decide +kernel
theorem dX7_top_3 : decode cX7_top 3 = .ok (.iload_n 1, 1) := by decide +kernel
theorem dX7_top_4 : decode cX7_top 4 = .ok (.iadd, 1) := by decide +kernel
theorem dX7_top_5 : decode cX7_top 5 = .ok (.iaload, 1) := by decide +kernel
theorem dX7_top_6 : decode cX7_top 6 = .ok (.aload_n 0, 1) := by decide +kernel
theorem dX7_top_7 : decode cX7_top 7 = .ok (.bipush 55, 2) := by decide +kernel
theorem dX7_top_9 : decode cX7_top 9 = .ok (.iload_n 1, 1) := by decide +kernel
theorem dX7_top_10 : decode cX7_top 10 = .ok (.iadd, 1) := by decide +kernel
theorem dX7_top_11 : decode cX7_top 11 = .ok (.iaload, 1) := by decide +kernel
theorem dX7_top_12 : decode cX7_top 12 = .ok (.iconst 2, 1) := by decide +kernel
theorem dX7_top_13 : decode cX7_top 13 = .ok (.if_icmp .ne 7, 3) := by decide +kernel
theorem dX7_top_16 : decode cX7_top 16 = .ok (.iconst 1, 1) := by decide +kernel
theorem dX7_top_17 : decode cX7_top 17 = .ok (.goto 4, 3) := by decide +kernel
theorem dX7_top_20 : decode cX7_top 20 = .ok (.iconst 0, 1) := by decide +kernel
theorem dX7_top_21 : decode cX7_top 21 = .ok (.iadd, 1) := by decide +kernel
theorem dX7_top_22 : decode cX7_top 22 = .ok (.ireturn, 1) := by decide +kernel
theorem dX7_high_0 : decode cX7_high 0 = .ok (.aload_n 0, 1) := by decide +kernel
theorem dX7_high_1 : decode cX7_high 1 = .ok (.iconst 2, 1) := by decide +kernel
theorem dX7_high_2 : decode cX7_high 2 = .ok (.iload_n 1, 1) := by decide +kernel
theorem dX7_high_3 : decode cX7_high 3 = .ok (.iadd, 1) := by decide +kernel
theorem dX7_high_4 : decode cX7_high 4 = .ok (.iaload, 1) := by decide +kernel
theorem dX7_high_5 : decode cX7_high 5 = .ok (.istore_n 2, 1) := by decide +kernel
theorem dX7_high_6 : decode cX7_high 6 = .ok (.aload_n 0, 1) := by decide +kernel
theorem dX7_high_7 : decode cX7_high 7 = .ok (.bipush 10, 2) := by decide +kernel
theorem dX7_high_9 : decode cX7_high 9 = .ok (.iload_n 1, 1) := by decide +kernel
theorem dX7_high_10 : decode cX7_high 10 = .ok (.iadd, 1) := by decide +kernel
theorem dX7_high_11 : decode cX7_high 11 = .ok (.iaload, 1) := by decide +kernel
theorem dX7_high_12 : decode cX7_high 12 = .ok (.ifCond .gt 7, 3) := by decide +kernel
theorem dX7_high_15 : decode cX7_high 15 = .ok (.iload_n 2, 1) := by decide +kernel
theorem dX7_high_16 : decode cX7_high 16 = .ok (.ifCond .ge 10, 3) := by decide +kernel
theorem dX7_high_19 : decode cX7_high 19 = .ok (.aload_n 0, 1) := by decide +kernel
theorem dX7_high_20 : decode cX7_high 20 = .ok (.bipush 10, 2) := by decide +kernel
theorem dX7_high_22 : decode cX7_high 22 = .ok (.iload_n 1, 1) := by decide +kernel
theorem dX7_high_23 : decode cX7_high 23 = .ok (.iadd, 1) := by decide +kernel
theorem dX7_high_24 : decode cX7_high 24 = .ok (.iaload, 1) := by decide +kernel
theorem dX7_high_25 : decode cX7_high 25 = .ok (.ireturn, 1) := by decide +kernel
theorem dX7_high_26 : decode cX7_high 26 = .ok (.aload_n 0, 1) := by decide +kernel
theorem dX7_high_27 : decode cX7_high 27 = .ok (.iload_n 1, 1) := by decide +kernel
theorem dX7_high_28 : decode cX7_high 28 = .ok (.invokestatic 112, 3) := by decide +kernel
theorem dX7_high_31 : decode cX7_high 31 = .ok (.istore_n 3, 1) := by decide +kernel
theorem dX7_high_32 : decode cX7_high 32 = .ok (.aload_n 0, 1) := by decide +kernel
theorem dX7_high_33 : decode cX7_high 33 = .ok (.bipush 55, 2) := by decide +kernel
theorem dX7_high_35 : decode cX7_high 35 = .ok (.iload_n 1, 1) := by decide +kernel
theorem dX7_high_36 : decode cX7_high 36 = .ok (.iadd, 1) := by decide +kernel
theorem dX7_high_37 : decode cX7_high 37 = .ok (.iaload, 1) := by decide +kernel
theorem dX7_high_38 : decode cX7_high 38 = .ok (.iconst 3, 1) := by decide +kernel
theorem dX7_high_39 : decode cX7_high 39 = .ok (.if_icmp .ne 7, 3) := by decide +kernel
theorem dX7_high_42 : decode cX7_high 42 = .ok (.iconst 2, 1) := by decide +kernel
theorem dX7_high_43 : decode cX7_high 43 = .ok (.goto 4, 3) := by decide +kernel
theorem dX7_high_46 : decode cX7_high 46 = .ok (.iconst 1, 1) := by decide +kernel
theorem dX7_high_47 : decode cX7_high 47 = .ok (.istore 4, 2) := by decide +kernel
theorem dX7_high_49 : decode cX7_high 49 = .ok (.iload_n 2, 1) := by decide +kernel
theorem dX7_high_50 : decode cX7_high 50 = .ok (.iload_n 3, 1) := by decide +kernel
theorem dX7_high_51 : decode cX7_high 51 = .ok (.if_icmp .gt 7, 3) := by decide +kernel
theorem dX7_high_54 : decode cX7_high 54 = .ok (.iload_n 2, 1) := by decide +kernel
theorem dX7_high_55 : decode cX7_high 55 = .ok (.goto 11, 3) := by decide +kernel
theorem dX7_high_58 : decode cX7_high 58 = .ok (.iload_n 3, 1) := by decide +kernel
theorem dX7_high_59 : decode cX7_high 59 = .ok (.iload 4, 2) := by decide +kernel
theorem dX7_high_61 : decode cX7_high 61 = .ok (.iload_n 2, 1) := by decide +kernel
theorem dX7_high_62 : decode cX7_high 62 = .ok (.iload_n 3, 1) := by decide +kernel
theorem dX7_high_63 : decode cX7_high 63 = .ok (.isub, 1) := by decide +kernel
theorem dX7_high_64 : decode cX7_high 64 = .ok (.imul, 1) := by decide +kernel
theorem dX7_high_65 : decode cX7_high 65 = .ok (.isub, 1) := by decide +kernel
theorem dX7_high_66 : decode cX7_high 66 = .ok (.ireturn, 1) := by decide +kernel
theorem dX7_meets_0 : decode cX7_meets 0 = .ok (.aload_n 0, 1) := by decide +kernel
theorem dX7_meets_1 : decode cX7_meets 1 = .ok (.iload_n 1, 1) := by decide +kernel
theorem dX7_meets_2 : decode cX7_meets 2 = .ok (.invokestatic 116, 3) := by decide +kernel
theorem dX7_meets_5 : decode cX7_meets 5 = .ok (.istore_n 3, 1) := by decide +kernel
theorem dX7_meets_6 : decode cX7_meets 6 = .ok (.aload_n 0, 1) := by decide +kernel
theorem dX7_meets_7 : decode cX7_meets 7 = .ok (.iload_n 2, 1) := by decide +kernel
theorem dX7_meets_8 : decode cX7_meets 8 = .ok (.invokestatic 116, 3) := by decide +kernel
theorem dX7_meets_11 : decode cX7_meets 11 = .ok (.istore 4, 2) := by decide +kernel
theorem dX7_meets_13 : decode cX7_meets 13 = .ok (.aload_n 0, 1) := by decide +kernel
theorem dX7_meets_14 : decode cX7_meets 14 = .ok (.bipush 18, 2) := by decide +kernel
theorem dX7_meets_16 : decode cX7_meets 16 = .ok (.iload_n 1, 1) := by decide +kernel
theorem dX7_meets_17 : decode cX7_meets 17 = .ok (.iadd, 1) := by decide +kernel
theorem dX7_meets_18 : decode cX7_meets 18 = .ok (.iaload, 1) := by decide +kernel
theorem dX7_meets_19 : decode cX7_meets 19 = .ok (.aload_n 0, 1) := by decide +kernel
theorem dX7_meets_20 : decode cX7_meets 20 = .ok (.bipush 18, 2) := by decide +kernel
theorem dX7_meets_22 : decode cX7_meets 22 = .ok (.iload_n 2, 1) := by decide +kernel
theorem dX7_meets_23 : decode cX7_meets 23 = .ok (.iadd, 1) := by decide +kernel
theorem dX7_meets_24 : decode cX7_meets 24 = .ok (.iaload, 1) := by decide +kernel
theorem dX7_meets_25 : decode cX7_meets 25 = .ok (.isub, 1) := by decide +kernel
theorem dX7_meets_26 : decode cX7_meets 26 = .ok (.istore 5, 2) := by decide +kernel
theorem dX7_meets_28 : decode cX7_meets 28 = .ok (.iload_n 3, 1) := by decide +kernel
theorem dX7_meets_29 : decode cX7_meets 29 = .ok (.aload_n 0, 1) := by decide +kernel
theorem dX7_meets_30 : decode cX7_meets 30 = .ok (.iload_n 1, 1) := by decide +kernel
theorem dX7_meets_31 : decode cX7_meets 31 = .ok (.invokestatic 112, 3) := by decide +kernel
theorem dX7_meets_34 : decode cX7_meets 34 = .ok (.if_icmp .ne 17, 3) := by decide +kernel
theorem dX7_meets_37 : decode cX7_meets 37 = .ok (.iload 4, 2) := by decide +kernel
theorem dX7_meets_39 : decode cX7_meets 39 = .ok (.aload_n 0, 1) := by decide +kernel
theorem dX7_meets_40 : decode cX7_meets 40 = .ok (.iload_n 2, 1) := by decide +kernel
theorem dX7_meets_41 : decode cX7_meets 41 = .ok (.invokestatic 112, 3) := by decide +kernel
theorem dX7_meets_44 : decode cX7_meets 44 = .ok (.if_icmp .ne 7, 3) := by decide +kernel
theorem dX7_meets_47 : decode cX7_meets 47 = .ok (.iconst 1, 1) := by decide +kernel
theorem dX7_meets_48 : decode cX7_meets 48 = .ok (.goto 4, 3) := by decide +kernel
theorem dX7_meets_51 : decode cX7_meets 51 = .ok (.iconst 0, 1) := by decide +kernel
theorem dX7_meets_52 : decode cX7_meets 52 = .ok (.istore 6, 2) := by decide +kernel
theorem dX7_meets_54 : decode cX7_meets 54 = .ok (.iload_n 3, 1) := by decide +kernel
theorem dX7_meets_55 : decode cX7_meets 55 = .ok (.ifCond .le 51, 3) := by decide +kernel
theorem dX7_meets_58 : decode cX7_meets 58 = .ok (.iload 4, 2) := by decide +kernel
theorem dX7_meets_60 : decode cX7_meets 60 = .ok (.ifCond .le 46, 3) := by decide +kernel
theorem dX7_meets_63 : decode cX7_meets 63 = .ok (.aload_n 0, 1) := by decide +kernel
theorem dX7_meets_64 : decode cX7_meets 64 = .ok (.iconst 2, 1) := by decide +kernel
theorem dX7_meets_65 : decode cX7_meets 65 = .ok (.iload_n 1, 1) := by decide +kernel
theorem dX7_meets_66 : decode cX7_meets 66 = .ok (.iadd, 1) := by decide +kernel
theorem dX7_meets_67 : decode cX7_meets 67 = .ok (.iaload, 1) := by decide +kernel
theorem dX7_meets_68 : decode cX7_meets 68 = .ok (.ifCond .ge 11, 3) := by decide +kernel
theorem dX7_meets_71 : decode cX7_meets 71 = .ok (.aload_n 0, 1) := by decide +kernel
theorem dX7_meets_72 : decode cX7_meets 72 = .ok (.iconst 2, 1) := by decide +kernel
theorem dX7_meets_73 : decode cX7_meets 73 = .ok (.iload_n 2, 1) := by decide +kernel
theorem dX7_meets_74 : decode cX7_meets 74 = .ok (.iadd, 1) := by decide +kernel
theorem dX7_meets_75 : decode cX7_meets 75 = .ok (.iaload, 1) := by decide +kernel
theorem dX7_meets_76 : decode cX7_meets 76 = .ok (.ifCond .lt 30, 3) := by decide +kernel
theorem dX7_meets_79 : decode cX7_meets 79 = .ok (.iload 6, 2) := by decide +kernel
theorem dX7_meets_81 : decode cX7_meets 81 = .ok (.ifCond .ne 21, 3) := by decide +kernel
theorem dX7_meets_84 : decode cX7_meets 84 = .ok (.iload_n 3, 1) := by decide +kernel
theorem dX7_meets_85 : decode cX7_meets 85 = .ok (.iload 4, 2) := by decide +kernel
theorem dX7_meets_87 : decode cX7_meets 87 = .ok (.if_icmp .ne 19, 3) := by decide +kernel
theorem dX7_meets_90 : decode cX7_meets 90 = .ok (.iload 5, 2) := by decide +kernel
theorem dX7_meets_92 : decode cX7_meets 92 = .ok (.iconst 1, 1) := by decide +kernel
theorem dX7_meets_93 : decode cX7_meets 93 = .ok (.if_icmp .eq 9, 3) := by decide +kernel
theorem dX7_meets_96 : decode cX7_meets 96 = .ok (.iload 5, 2) := by decide +kernel
theorem dX7_meets_98 : decode cX7_meets 98 = .ok (.iconst (-1), 1) := by decide +kernel
theorem dX7_meets_99 : decode cX7_meets 99 = .ok (.if_icmp .ne 7, 3) := by decide +kernel
theorem dX7_meets_102 : decode cX7_meets 102 = .ok (.iconst 1, 1) := by decide +kernel
theorem dX7_meets_103 : decode cX7_meets 103 = .ok (.goto 4, 3) := by decide +kernel
theorem dX7_meets_106 : decode cX7_meets 106 = .ok (.iconst 0, 1) := by decide +kernel
theorem dX7_meets_107 : decode cX7_meets 107 = .ok (.ireturn, 1) := by decide +kernel
theorem dX7_prints_0 : decode cX7_prints 0 = .ok (.aload_n 0, 1) := by decide +kernel
theorem dX7_prints_1 : decode cX7_prints 1 = .ok (.iconst 1, 1) := by decide +kernel
theorem dX7_prints_2 : decode cX7_prints 2 = .ok (.iaload, 1) := by decide +kernel
theorem dX7_prints_3 : decode cX7_prints 3 = .ok (.istore_n 2, 1) := by decide +kernel
theorem dX7_prints_4 : decode cX7_prints 4 = .ok (.iload_n 2, 1) := by decide +kernel
theorem dX7_prints_5 : decode cX7_prints 5 = .ok (.bipush 20, 2) := by decide +kernel
theorem dX7_prints_7 : decode cX7_prints 7 = .ok (.if_icmp .ge 52, 3) := by decide +kernel
theorem dX7_prints_10 : decode cX7_prints 10 = .ok (.aload_n 0, 1) := by decide +kernel
theorem dX7_prints_11 : decode cX7_prints 11 = .ok (.bipush 26, 2) := by decide +kernel
theorem dX7_prints_13 : decode cX7_prints 13 = .ok (.iload_n 2, 1) := by decide +kernel
theorem dX7_prints_14 : decode cX7_prints 14 = .ok (.iadd, 1) := by decide +kernel
theorem dX7_prints_15 : decode cX7_prints 15 = .ok (.aload_n 0, 1) := by decide +kernel
theorem dX7_prints_16 : decode cX7_prints 16 = .ok (.bipush 55, 2) := by decide +kernel
theorem dX7_prints_18 : decode cX7_prints 18 = .ok (.iload_n 1, 1) := by decide +kernel
theorem dX7_prints_19 : decode cX7_prints 19 = .ok (.iadd, 1) := by decide +kernel
theorem dX7_prints_20 : decode cX7_prints 20 = .ok (.iaload, 1) := by decide +kernel
theorem dX7_prints_21 : decode cX7_prints 21 = .ok (.iconst 5, 1) := by decide +kernel
theorem dX7_prints_22 : decode cX7_prints 22 = .ok (.if_icmp .ne 12, 3) := by decide +kernel
theorem dX7_prints_25 : decode cX7_prints 25 = .ok (.aload_n 0, 1) := by decide +kernel
theorem dX7_prints_26 : decode cX7_prints 26 = .ok (.bipush 26, 2) := by decide +kernel
theorem dX7_prints_28 : decode cX7_prints 28 = .ok (.iload_n 2, 1) := by decide +kernel
theorem dX7_prints_29 : decode cX7_prints 29 = .ok (.iadd, 1) := by decide +kernel
theorem dX7_prints_30 : decode cX7_prints 30 = .ok (.iaload, 1) := by decide +kernel
theorem dX7_prints_31 : decode cX7_prints 31 = .ok (.goto 6, 3) := by decide +kernel
theorem dX7_prints_34 : decode cX7_prints 34 = .ok (.iload_n 1, 1) := by decide +kernel
theorem dX7_prints_35 : decode cX7_prints 35 = .ok (.iconst 1, 1) := by decide +kernel
theorem dX7_prints_36 : decode cX7_prints 36 = .ok (.iadd, 1) := by decide +kernel
theorem dX7_prints_37 : decode cX7_prints 37 = .ok (.iastore, 1) := by decide +kernel
theorem dX7_prints_38 : decode cX7_prints 38 = .ok (.aload_n 0, 1) := by decide +kernel
theorem dX7_prints_39 : decode cX7_prints 39 = .ok (.iconst 1, 1) := by decide +kernel
theorem dX7_prints_40 : decode cX7_prints 40 = .ok (.dup2, 1) := by decide +kernel
theorem dX7_prints_41 : decode cX7_prints 41 = .ok (.iaload, 1) := by decide +kernel
theorem dX7_prints_42 : decode cX7_prints 42 = .ok (.aload_n 0, 1) := by decide +kernel
theorem dX7_prints_43 : decode cX7_prints 43 = .ok (.bipush 55, 2) := by decide +kernel
theorem dX7_prints_45 : decode cX7_prints 45 = .ok (.iload_n 1, 1) := by decide +kernel
theorem dX7_prints_46 : decode cX7_prints 46 = .ok (.iadd, 1) := by decide +kernel
theorem dX7_prints_47 : decode cX7_prints 47 = .ok (.iaload, 1) := by decide +kernel
theorem dX7_prints_48 : decode cX7_prints 48 = .ok (.iconst 4, 1) := by decide +kernel
theorem dX7_prints_49 : decode cX7_prints 49 = .ok (.if_icmp .ne 7, 3) := by decide +kernel
theorem dX7_prints_52 : decode cX7_prints 52 = .ok (.iconst 0, 1) := by decide +kernel
theorem dX7_prints_53 : decode cX7_prints 53 = .ok (.goto 4, 3) := by decide +kernel
theorem dX7_prints_56 : decode cX7_prints 56 = .ok (.iconst 1, 1) := by decide +kernel
theorem dX7_prints_57 : decode cX7_prints 57 = .ok (.iadd, 1) := by decide +kernel
theorem dX7_prints_58 : decode cX7_prints 58 = .ok (.iastore, 1) := by decide +kernel
theorem dX7_prints_59 : decode cX7_prints 59 = .ok (.return_, 1) := by decide +kernel
theorem dX7_tick_0 : decode cX7_tick 0 = .ok (.aload_n 0, 1) := by decide +kernel
theorem dX7_tick_1 : decode cX7_tick 1 = .ok (.bipush 46, 2) := by decide +kernel
theorem dX7_tick_3 : decode cX7_tick 3 = .ok (.iaload, 1) := by decide +kernel
theorem dX7_tick_4 : decode cX7_tick 4 = .ok (.istore_n 1, 1) := by decide +kernel
theorem dX7_tick_5 : decode cX7_tick 5 = .ok (.iconst 0, 1) := by decide +kernel
theorem dX7_tick_6 : decode cX7_tick 6 = .ok (.istore_n 2, 1) := by decide +kernel
theorem dX7_tick_7 : decode cX7_tick 7 = .ok (.iload_n 2, 1) := by decide +kernel
theorem dX7_tick_8 : decode cX7_tick 8 = .ok (.iload_n 1, 1) := by decide +kernel
theorem dX7_tick_9 : decode cX7_tick 9 = .ok (.if_icmp .ge 60, 3) := by decide +kernel
theorem dX7_tick_12 : decode cX7_tick 12 = .ok (.aload_n 0, 1) := by decide +kernel
theorem dX7_tick_13 : decode cX7_tick 13 = .ok (.iconst 2, 1) := by decide +kernel
theorem dX7_tick_14 : decode cX7_tick 14 = .ok (.iload_n 2, 1) := by decide +kernel
theorem dX7_tick_15 : decode cX7_tick 15 = .ok (.iadd, 1) := by decide +kernel
theorem dX7_tick_16 : decode cX7_tick 16 = .ok (.dup2, 1) := by decide +kernel
theorem dX7_tick_17 : decode cX7_tick 17 = .ok (.iaload, 1) := by decide +kernel
theorem dX7_tick_18 : decode cX7_tick 18 = .ok (.aload_n 0, 1) := by decide +kernel
theorem dX7_tick_19 : decode cX7_tick 19 = .ok (.iconst 2, 1) := by decide +kernel
theorem dX7_tick_20 : decode cX7_tick 20 = .ok (.iload_n 2, 1) := by decide +kernel
theorem dX7_tick_21 : decode cX7_tick 21 = .ok (.iadd, 1) := by decide +kernel
theorem dX7_tick_22 : decode cX7_tick 22 = .ok (.iaload, 1) := by decide +kernel
theorem dX7_tick_23 : decode cX7_tick 23 = .ok (.ifCond .ge 7, 3) := by decide +kernel
theorem dX7_tick_26 : decode cX7_tick 26 = .ok (.iconst 0, 1) := by decide +kernel
theorem dX7_tick_27 : decode cX7_tick 27 = .ok (.goto 4, 3) := by decide +kernel
theorem dX7_tick_30 : decode cX7_tick 30 = .ok (.iconst 1, 1) := by decide +kernel
theorem dX7_tick_31 : decode cX7_tick 31 = .ok (.iadd, 1) := by decide +kernel
theorem dX7_tick_32 : decode cX7_tick 32 = .ok (.iastore, 1) := by decide +kernel
theorem dX7_tick_33 : decode cX7_tick 33 = .ok (.aload_n 0, 1) := by decide +kernel
theorem dX7_tick_34 : decode cX7_tick 34 = .ok (.iconst 2, 1) := by decide +kernel
theorem dX7_tick_35 : decode cX7_tick 35 = .ok (.iload_n 2, 1) := by decide +kernel
theorem dX7_tick_36 : decode cX7_tick 36 = .ok (.iadd, 1) := by decide +kernel
theorem dX7_tick_37 : decode cX7_tick 37 = .ok (.aload_n 0, 1) := by decide +kernel
theorem dX7_tick_38 : decode cX7_tick 38 = .ok (.iconst 2, 1) := by decide +kernel
theorem dX7_tick_39 : decode cX7_tick 39 = .ok (.iload_n 2, 1) := by decide +kernel
theorem dX7_tick_40 : decode cX7_tick 40 = .ok (.iadd, 1) := by decide +kernel
theorem dX7_tick_41 : decode cX7_tick 41 = .ok (.iaload, 1) := by decide +kernel
theorem dX7_tick_42 : decode cX7_tick 42 = .ok (.ifCond .lt 15, 3) := by decide +kernel
theorem dX7_tick_45 : decode cX7_tick 45 = .ok (.aload_n 0, 1) := by decide +kernel
theorem dX7_tick_46 : decode cX7_tick 46 = .ok (.iload_n 2, 1) := by decide +kernel
theorem dX7_tick_47 : decode cX7_tick 47 = .ok (.invokestatic 116, 3) := by decide +kernel
theorem dX7_tick_50 : decode cX7_tick 50 = .ok (.ifCond .gt 7, 3) := by decide +kernel
theorem dX7_tick_53 : decode cX7_tick 53 = .ok (.iconst (-1), 1) := by decide +kernel
theorem dX7_tick_54 : decode cX7_tick 54 = .ok (.goto 8, 3) := by decide +kernel
theorem dX7_tick_57 : decode cX7_tick 57 = .ok (.aload_n 0, 1) := by decide +kernel
theorem dX7_tick_58 : decode cX7_tick 58 = .ok (.iconst 2, 1) := by decide +kernel
theorem dX7_tick_59 : decode cX7_tick 59 = .ok (.iload_n 2, 1) := by decide +kernel
theorem dX7_tick_60 : decode cX7_tick 60 = .ok (.iadd, 1) := by decide +kernel
theorem dX7_tick_61 : decode cX7_tick 61 = .ok (.iaload, 1) := by decide +kernel
theorem dX7_tick_62 : decode cX7_tick 62 = .ok (.iastore, 1) := by decide +kernel
theorem dX7_tick_63 : decode cX7_tick 63 = .ok (.iinc 2 1, 3) := by decide +kernel
theorem dX7_tick_66 : decode cX7_tick 66 = .ok (.goto (-59), 3) := by decide +kernel
theorem dX7_tick_69 : decode cX7_tick 69 = .ok (.iconst 0, 1) := by decide +kernel
theorem dX7_tick_70 : decode cX7_tick 70 = .ok (.istore_n 2, 1) := by decide +kernel
theorem dX7_tick_71 : decode cX7_tick 71 = .ok (.iconst 0, 1) := by decide +kernel
theorem dX7_tick_72 : decode cX7_tick 72 = .ok (.istore_n 3, 1) := by decide +kernel
theorem dX7_tick_73 : decode cX7_tick 73 = .ok (.iload_n 3, 1) := by decide +kernel
theorem dX7_tick_74 : decode cX7_tick 74 = .ok (.iload_n 1, 1) := by decide +kernel
theorem dX7_tick_75 : decode cX7_tick 75 = .ok (.if_icmp .ge 51, 3) := by decide +kernel
theorem dX7_tick_78 : decode cX7_tick 78 = .ok (.iload_n 3, 1) := by decide +kernel
theorem dX7_tick_79 : decode cX7_tick 79 = .ok (.iconst 1, 1) := by decide +kernel
theorem dX7_tick_80 : decode cX7_tick 80 = .ok (.iadd, 1) := by decide +kernel
theorem dX7_tick_81 : decode cX7_tick 81 = .ok (.istore 4, 2) := by decide +kernel
theorem dX7_tick_83 : decode cX7_tick 83 = .ok (.iload 4, 2) := by decide +kernel
theorem dX7_tick_85 : decode cX7_tick 85 = .ok (.iload_n 1, 1) := by decide +kernel
theorem dX7_tick_86 : decode cX7_tick 86 = .ok (.if_icmp .ge 34, 3) := by decide +kernel
theorem dX7_tick_89 : decode cX7_tick 89 = .ok (.iload_n 2, 1) := by decide +kernel
theorem dX7_tick_90 : decode cX7_tick 90 = .ok (.aload_n 0, 1) := by decide +kernel
theorem dX7_tick_91 : decode cX7_tick 91 = .ok (.iload_n 3, 1) := by decide +kernel
theorem dX7_tick_92 : decode cX7_tick 92 = .ok (.iload 4, 2) := by decide +kernel
theorem dX7_tick_94 : decode cX7_tick 94 = .ok (.invokestatic 119, 3) := by decide +kernel
theorem dX7_tick_97 : decode cX7_tick 97 = .ok (.ifCond .eq 14, 3) := by decide +kernel
theorem dX7_tick_100 : decode cX7_tick 100 = .ok (.iconst 1, 1) := by decide +kernel
theorem dX7_tick_101 : decode cX7_tick 101 = .ok (.iload_n 3, 1) := by decide +kernel
theorem dX7_tick_102 : decode cX7_tick 102 = .ok (.ishl, 1) := by decide +kernel
theorem dX7_tick_103 : decode cX7_tick 103 = .ok (.iconst 1, 1) := by decide +kernel
theorem dX7_tick_104 : decode cX7_tick 104 = .ok (.iload 4, 2) := by decide +kernel
theorem dX7_tick_106 : decode cX7_tick 106 = .ok (.ishl, 1) := by decide +kernel
theorem dX7_tick_107 : decode cX7_tick 107 = .ok (.ior, 1) := by decide +kernel
theorem dX7_tick_108 : decode cX7_tick 108 = .ok (.goto 4, 3) := by decide +kernel
theorem dX7_tick_111 : decode cX7_tick 111 = .ok (.iconst 0, 1) := by decide +kernel
theorem dX7_tick_112 : decode cX7_tick 112 = .ok (.ior, 1) := by decide +kernel
theorem dX7_tick_113 : decode cX7_tick 113 = .ok (.istore_n 2, 1) := by decide +kernel
theorem dX7_tick_114 : decode cX7_tick 114 = .ok (.iinc 4 1, 3) := by decide +kernel
theorem dX7_tick_117 : decode cX7_tick 117 = .ok (.goto (-34), 3) := by decide +kernel
theorem dX7_tick_120 : decode cX7_tick 120 = .ok (.iinc 3 1, 3) := by decide +kernel
theorem dX7_tick_123 : decode cX7_tick 123 = .ok (.goto (-50), 3) := by decide +kernel
theorem dX7_tick_126 : decode cX7_tick 126 = .ok (.iconst 0, 1) := by decide +kernel
theorem dX7_tick_127 : decode cX7_tick 127 = .ok (.istore_n 3, 1) := by decide +kernel
theorem dX7_tick_128 : decode cX7_tick 128 = .ok (.iload_n 3, 1) := by decide +kernel
theorem dX7_tick_129 : decode cX7_tick 129 = .ok (.iload_n 1, 1) := by decide +kernel
theorem dX7_tick_130 : decode cX7_tick 130 = .ok (.if_icmp .ge 42, 3) := by decide +kernel
theorem dX7_tick_133 : decode cX7_tick 133 = .ok (.iload_n 2, 1) := by decide +kernel
theorem dX7_tick_134 : decode cX7_tick 134 = .ok (.iload_n 3, 1) := by decide +kernel
theorem dX7_tick_135 : decode cX7_tick 135 = .ok (.invokestatic 123, 3) := by decide +kernel
theorem dX7_tick_138 : decode cX7_tick 138 = .ok (.ifCond .eq 28, 3) := by decide +kernel
theorem dX7_tick_141 : decode cX7_tick 141 = .ok (.aload_n 0, 1) := by decide +kernel
theorem dX7_tick_142 : decode cX7_tick 142 = .ok (.iconst 2, 1) := by decide +kernel
theorem dX7_tick_143 : decode cX7_tick 143 = .ok (.iload_n 3, 1) := by decide +kernel
theorem dX7_tick_144 : decode cX7_tick 144 = .ok (.iadd, 1) := by decide +kernel
theorem dX7_tick_145 : decode cX7_tick 145 = .ok (.iaload, 1) := by decide +kernel
theorem dX7_tick_146 : decode cX7_tick 146 = .ok (.ifCond .lt 20, 3) := by decide +kernel
theorem dX7_tick_149 : decode cX7_tick 149 = .ok (.aload_n 0, 1) := by decide +kernel
theorem dX7_tick_150 : decode cX7_tick 150 = .ok (.bipush 10, 2) := by decide +kernel
theorem dX7_tick_152 : decode cX7_tick 152 = .ok (.iload_n 3, 1) := by decide +kernel
theorem dX7_tick_153 : decode cX7_tick 153 = .ok (.iadd, 1) := by decide +kernel
theorem dX7_tick_154 : decode cX7_tick 154 = .ok (.aload_n 0, 1) := by decide +kernel
theorem dX7_tick_155 : decode cX7_tick 155 = .ok (.iload_n 3, 1) := by decide +kernel
theorem dX7_tick_156 : decode cX7_tick 156 = .ok (.invokestatic 116, 3) := by decide +kernel
theorem dX7_tick_159 : decode cX7_tick 159 = .ok (.iastore, 1) := by decide +kernel
theorem dX7_tick_160 : decode cX7_tick 160 = .ok (.aload_n 0, 1) := by decide +kernel
theorem dX7_tick_161 : decode cX7_tick 161 = .ok (.iconst 2, 1) := by decide +kernel
theorem dX7_tick_162 : decode cX7_tick 162 = .ok (.iload_n 3, 1) := by decide +kernel
theorem dX7_tick_163 : decode cX7_tick 163 = .ok (.iadd, 1) := by decide +kernel
theorem dX7_tick_164 : decode cX7_tick 164 = .ok (.iconst (-1), 1) := by decide +kernel
theorem dX7_tick_165 : decode cX7_tick 165 = .ok (.iastore, 1) := by decide +kernel
theorem dX7_tick_166 : decode cX7_tick 166 = .ok (.iinc 3 1, 3) := by decide +kernel
theorem dX7_tick_169 : decode cX7_tick 169 = .ok (.goto (-41), 3) := by decide +kernel
theorem dX7_tick_172 : decode cX7_tick 172 = .ok (.iconst 0, 1) := by decide +kernel
theorem dX7_tick_173 : decode cX7_tick 173 = .ok (.istore_n 3, 1) := by decide +kernel
theorem dX7_tick_174 : decode cX7_tick 174 = .ok (.iconst 0, 1) := by decide +kernel
theorem dX7_tick_175 : decode cX7_tick 175 = .ok (.istore 4, 2) := by decide +kernel
theorem dX7_tick_177 : decode cX7_tick 177 = .ok (.iload 4, 2) := by decide +kernel
theorem dX7_tick_179 : decode cX7_tick 179 = .ok (.iload_n 1, 1) := by decide +kernel
theorem dX7_tick_180 : decode cX7_tick 180 = .ok (.if_icmp .ge 42, 3) := by decide +kernel
theorem dX7_tick_183 : decode cX7_tick 183 = .ok (.aload_n 0, 1) := by decide +kernel
theorem dX7_tick_184 : decode cX7_tick 184 = .ok (.iconst 2, 1) := by decide +kernel
theorem dX7_tick_185 : decode cX7_tick 185 = .ok (.iload 4, 2) := by decide +kernel
theorem dX7_tick_187 : decode cX7_tick 187 = .ok (.iadd, 1) := by decide +kernel
theorem dX7_tick_188 : decode cX7_tick 188 = .ok (.iaload, 1) := by decide +kernel
theorem dX7_tick_189 : decode cX7_tick 189 = .ok (.ifCond .lt 27, 3) := by decide +kernel
theorem dX7_tick_192 : decode cX7_tick 192 = .ok (.aload_n 0, 1) := by decide +kernel
theorem dX7_tick_193 : decode cX7_tick 193 = .ok (.iconst 2, 1) := by decide +kernel
theorem dX7_tick_194 : decode cX7_tick 194 = .ok (.iload 4, 2) := by decide +kernel
theorem dX7_tick_196 : decode cX7_tick 196 = .ok (.iadd, 1) := by decide +kernel
theorem dX7_tick_197 : decode cX7_tick 197 = .ok (.iaload, 1) := by decide +kernel
theorem dX7_tick_198 : decode cX7_tick 198 = .ok (.aload_n 0, 1) := by decide +kernel
theorem dX7_tick_199 : decode cX7_tick 199 = .ok (.iload 4, 2) := by decide +kernel
theorem dX7_tick_201 : decode cX7_tick 201 = .ok (.invokestatic 112, 3) := by decide +kernel
theorem dX7_tick_204 : decode cX7_tick 204 = .ok (.if_icmp .ne 12, 3) := by decide +kernel
theorem dX7_tick_207 : decode cX7_tick 207 = .ok (.aload_n 0, 1) := by decide +kernel
theorem dX7_tick_208 : decode cX7_tick 208 = .ok (.iload 4, 2) := by decide +kernel
theorem dX7_tick_210 : decode cX7_tick 210 = .ok (.invokestatic 127, 3) := by decide +kernel
theorem dX7_tick_213 : decode cX7_tick 213 = .ok (.iinc 3 1, 3) := by decide +kernel
theorem dX7_tick_216 : decode cX7_tick 216 = .ok (.iinc 4 1, 3) := by decide +kernel
theorem dX7_tick_219 : decode cX7_tick 219 = .ok (.goto (-42), 3) := by decide +kernel
theorem dX7_tick_222 : decode cX7_tick 222 = .ok (.aload_n 0, 1) := by decide +kernel
theorem dX7_tick_223 : decode cX7_tick 223 = .ok (.iconst 0, 1) := by decide +kernel
theorem dX7_tick_224 : decode cX7_tick 224 = .ok (.dup2, 1) := by decide +kernel
theorem dX7_tick_225 : decode cX7_tick 225 = .ok (.iaload, 1) := by decide +kernel
theorem dX7_tick_226 : decode cX7_tick 226 = .ok (.iconst 1, 1) := by decide +kernel
theorem dX7_tick_227 : decode cX7_tick 227 = .ok (.iadd, 1) := by decide +kernel
theorem dX7_tick_228 : decode cX7_tick 228 = .ok (.iastore, 1) := by decide +kernel
theorem dX7_tick_229 : decode cX7_tick 229 = .ok (.iload_n 3, 1) := by decide +kernel
theorem dX7_tick_230 : decode cX7_tick 230 = .ok (.ireturn, 1) := by decide +kernel
theorem dX7_has_0 : decode cX7_has 0 = .ok (.iload_n 0, 1) := by decide +kernel
theorem dX7_has_1 : decode cX7_has 1 = .ok (.iload_n 1, 1) := by decide +kernel
theorem dX7_has_2 : decode cX7_has 2 = .ok (.ishr, 1) := by decide +kernel
theorem dX7_has_3 : decode cX7_has 3 = .ok (.iconst 1, 1) := by decide +kernel
theorem dX7_has_4 : decode cX7_has 4 = .ok (.iand, 1) := by decide +kernel
theorem dX7_has_5 : decode cX7_has 5 = .ok (.iconst 1, 1) := by decide +kernel
theorem dX7_has_6 : decode cX7_has 6 = .ok (.if_icmp .ne 7, 3) := by decide +kernel
theorem dX7_has_9 : decode cX7_has 9 = .ok (.iconst 1, 1) := by decide +kernel
theorem dX7_has_10 : decode cX7_has 10 = .ok (.goto 4, 3) := by decide +kernel
theorem dX7_has_13 : decode cX7_has 13 = .ok (.iconst 0, 1) := by decide +kernel
theorem dX7_has_14 : decode cX7_has 14 = .ok (.ireturn, 1) := by decide +kernel
theorem dX7_hanging_0 : decode cX7_hanging 0 = .ok (.iconst 0, 1) := by decide +kernel
theorem dX7_hanging_1 : decode cX7_hanging 1 = .ok (.istore_n 1, 1) := by decide +kernel
theorem dX7_hanging_2 : decode cX7_hanging 2 = .ok (.iconst 0, 1) := by decide +kernel
theorem dX7_hanging_3 : decode cX7_hanging 3 = .ok (.istore_n 2, 1) := by decide +kernel
theorem dX7_hanging_4 : decode cX7_hanging 4 = .ok (.iload_n 2, 1) := by decide +kernel
theorem dX7_hanging_5 : decode cX7_hanging 5 = .ok (.aload_n 0, 1) := by decide +kernel
theorem dX7_hanging_6 : decode cX7_hanging 6 = .ok (.bipush 46, 2) := by decide +kernel
theorem dX7_hanging_8 : decode cX7_hanging 8 = .ok (.iaload, 1) := by decide +kernel
theorem dX7_hanging_9 : decode cX7_hanging 9 = .ok (.if_icmp .ge 28, 3) := by decide +kernel
theorem dX7_hanging_12 : decode cX7_hanging 12 = .ok (.iload_n 1, 1) := by decide +kernel
theorem dX7_hanging_13 : decode cX7_hanging 13 = .ok (.aload_n 0, 1) := by decide +kernel
theorem dX7_hanging_14 : decode cX7_hanging 14 = .ok (.bipush 10, 2) := by decide +kernel
theorem dX7_hanging_16 : decode cX7_hanging 16 = .ok (.iload_n 2, 1) := by decide +kernel
theorem dX7_hanging_17 : decode cX7_hanging 17 = .ok (.iadd, 1) := by decide +kernel
theorem dX7_hanging_18 : decode cX7_hanging 18 = .ok (.iaload, 1) := by decide +kernel
theorem dX7_hanging_19 : decode cX7_hanging 19 = .ok (.ifCond .le 9, 3) := by decide +kernel
theorem dX7_hanging_22 : decode cX7_hanging 22 = .ok (.iconst 1, 1) := by decide +kernel
theorem dX7_hanging_23 : decode cX7_hanging 23 = .ok (.iload_n 2, 1) := by decide +kernel
theorem dX7_hanging_24 : decode cX7_hanging 24 = .ok (.ishl, 1) := by decide +kernel
theorem dX7_hanging_25 : decode cX7_hanging 25 = .ok (.goto 4, 3) := by decide +kernel
theorem dX7_hanging_28 : decode cX7_hanging 28 = .ok (.iconst 0, 1) := by decide +kernel
theorem dX7_hanging_29 : decode cX7_hanging 29 = .ok (.ior, 1) := by decide +kernel
theorem dX7_hanging_30 : decode cX7_hanging 30 = .ok (.istore_n 1, 1) := by decide +kernel
theorem dX7_hanging_31 : decode cX7_hanging 31 = .ok (.iinc 2 1, 3) := by decide +kernel
theorem dX7_hanging_34 : decode cX7_hanging 34 = .ok (.goto (-30), 3) := by decide +kernel
theorem dX7_hanging_37 : decode cX7_hanging 37 = .ok (.iload_n 1, 1) := by decide +kernel
theorem dX7_hanging_38 : decode cX7_hanging 38 = .ok (.ireturn, 1) := by decide +kernel
theorem dX7_moving_0 : decode cX7_moving 0 = .ok (.iconst 0, 1) := by decide +kernel
theorem dX7_moving_1 : decode cX7_moving 1 = .ok (.istore_n 1, 1) := by decide +kernel
theorem dX7_moving_2 : decode cX7_moving 2 = .ok (.iconst 0, 1) := by decide +kernel
theorem dX7_moving_3 : decode cX7_moving 3 = .ok (.istore_n 2, 1) := by decide +kernel
theorem dX7_moving_4 : decode cX7_moving 4 = .ok (.iload_n 2, 1) := by decide +kernel
theorem dX7_moving_5 : decode cX7_moving 5 = .ok (.aload_n 0, 1) := by decide +kernel
theorem dX7_moving_6 : decode cX7_moving 6 = .ok (.bipush 46, 2) := by decide +kernel
theorem dX7_moving_8 : decode cX7_moving 8 = .ok (.iaload, 1) := by decide +kernel
theorem dX7_moving_9 : decode cX7_moving 9 = .ok (.if_icmp .ge 27, 3) := by decide +kernel
theorem dX7_moving_12 : decode cX7_moving 12 = .ok (.iload_n 1, 1) := by decide +kernel
theorem dX7_moving_13 : decode cX7_moving 13 = .ok (.aload_n 0, 1) := by decide +kernel
theorem dX7_moving_14 : decode cX7_moving 14 = .ok (.iconst 2, 1) := by decide +kernel
theorem dX7_moving_15 : decode cX7_moving 15 = .ok (.iload_n 2, 1) := by decide +kernel
theorem dX7_moving_16 : decode cX7_moving 16 = .ok (.iadd, 1) := by decide +kernel
theorem dX7_moving_17 : decode cX7_moving 17 = .ok (.iaload, 1) := by decide +kernel
theorem dX7_moving_18 : decode cX7_moving 18 = .ok (.ifCond .lt 9, 3) := by decide +kernel
theorem dX7_moving_21 : decode cX7_moving 21 = .ok (.iconst 1, 1) := by decide +kernel
theorem dX7_moving_22 : decode cX7_moving 22 = .ok (.iload_n 2, 1) := by decide +kernel
theorem dX7_moving_23 : decode cX7_moving 23 = .ok (.ishl, 1) := by decide +kernel
theorem dX7_moving_24 : decode cX7_moving 24 = .ok (.goto 4, 3) := by decide +kernel
theorem dX7_moving_27 : decode cX7_moving 27 = .ok (.iconst 0, 1) := by decide +kernel
theorem dX7_moving_28 : decode cX7_moving 28 = .ok (.ior, 1) := by decide +kernel
theorem dX7_moving_29 : decode cX7_moving 29 = .ok (.istore_n 1, 1) := by decide +kernel
theorem dX7_moving_30 : decode cX7_moving 30 = .ok (.iinc 2 1, 3) := by decide +kernel
theorem dX7_moving_33 : decode cX7_moving 33 = .ok (.goto (-29), 3) := by decide +kernel
theorem dX7_moving_36 : decode cX7_moving 36 = .ok (.iload_n 1, 1) := by decide +kernel
theorem dX7_moving_37 : decode cX7_moving 37 = .ok (.ireturn, 1) := by decide +kernel
theorem dX7_rests_0 : decode cX7_rests 0 = .ok (.aload_n 0, 1) := by decide +kernel
theorem dX7_rests_1 : decode cX7_rests 1 = .ok (.iconst 2, 1) := by decide +kernel
theorem dX7_rests_2 : decode cX7_rests 2 = .ok (.iload_n 1, 1) := by decide +kernel
theorem dX7_rests_3 : decode cX7_rests 3 = .ok (.iadd, 1) := by decide +kernel
theorem dX7_rests_4 : decode cX7_rests 4 = .ok (.iaload, 1) := by decide +kernel
theorem dX7_rests_5 : decode cX7_rests 5 = .ok (.ifCond .ge 16, 3) := by decide +kernel
theorem dX7_rests_8 : decode cX7_rests 8 = .ok (.aload_n 0, 1) := by decide +kernel
theorem dX7_rests_9 : decode cX7_rests 9 = .ok (.bipush 10, 2) := by decide +kernel
theorem dX7_rests_11 : decode cX7_rests 11 = .ok (.iload_n 1, 1) := by decide +kernel
theorem dX7_rests_12 : decode cX7_rests 12 = .ok (.iadd, 1) := by decide +kernel
theorem dX7_rests_13 : decode cX7_rests 13 = .ok (.iaload, 1) := by decide +kernel
theorem dX7_rests_14 : decode cX7_rests 14 = .ok (.ifCond .ne 7, 3) := by decide +kernel
theorem dX7_rests_17 : decode cX7_rests 17 = .ok (.iconst 1, 1) := by decide +kernel
theorem dX7_rests_18 : decode cX7_rests 18 = .ok (.goto 4, 3) := by decide +kernel
theorem dX7_rests_21 : decode cX7_rests 21 = .ok (.iconst 0, 1) := by decide +kernel
theorem dX7_rests_22 : decode cX7_rests 22 = .ok (.ireturn, 1) := by decide +kernel
theorem dX7_frees_0 : decode cX7_frees 0 = .ok (.iconst 0, 1) := by decide +kernel
theorem dX7_frees_1 : decode cX7_frees 1 = .ok (.istore_n 1, 1) := by decide +kernel
theorem dX7_frees_2 : decode cX7_frees 2 = .ok (.iload_n 1, 1) := by decide +kernel
theorem dX7_frees_3 : decode cX7_frees 3 = .ok (.bipush 8, 2) := by decide +kernel
theorem dX7_frees_5 : decode cX7_frees 5 = .ok (.if_icmp .ge 16, 3) := by decide +kernel
theorem dX7_frees_8 : decode cX7_frees 8 = .ok (.aload_n 0, 1) := by decide +kernel
theorem dX7_frees_9 : decode cX7_frees 9 = .ok (.bipush 10, 2) := by decide +kernel
theorem dX7_frees_11 : decode cX7_frees 11 = .ok (.iload_n 1, 1) := by decide +kernel
theorem dX7_frees_12 : decode cX7_frees 12 = .ok (.iadd, 1) := by decide +kernel
theorem dX7_frees_13 : decode cX7_frees 13 = .ok (.iconst 0, 1) := by decide +kernel
theorem dX7_frees_14 : decode cX7_frees 14 = .ok (.iastore, 1) := by decide +kernel
theorem dX7_frees_15 : decode cX7_frees 15 = .ok (.iinc 1 1, 3) := by decide +kernel
theorem dX7_frees_18 : decode cX7_frees 18 = .ok (.goto (-16), 3) := by decide +kernel
theorem dX7_frees_21 : decode cX7_frees 21 = .ok (.return_, 1) := by decide +kernel
theorem dX7_exchanges_0 : decode cX7_exchanges 0 = .ok (.aload_n 0, 1) := by decide +kernel
theorem dX7_exchanges_1 : decode cX7_exchanges 1 = .ok (.bipush 18, 2) := by decide +kernel
theorem dX7_exchanges_3 : decode cX7_exchanges 3 = .ok (.iload_n 1, 1) := by decide +kernel
theorem dX7_exchanges_4 : decode cX7_exchanges 4 = .ok (.iadd, 1) := by decide +kernel
theorem dX7_exchanges_5 : decode cX7_exchanges 5 = .ok (.iaload, 1) := by decide +kernel
theorem dX7_exchanges_6 : decode cX7_exchanges 6 = .ok (.istore_n 3, 1) := by decide +kernel
theorem dX7_exchanges_7 : decode cX7_exchanges 7 = .ok (.aload_n 0, 1) := by decide +kernel
theorem dX7_exchanges_8 : decode cX7_exchanges 8 = .ok (.bipush 18, 2) := by decide +kernel
theorem dX7_exchanges_10 : decode cX7_exchanges 10 = .ok (.iload_n 1, 1) := by decide +kernel
theorem dX7_exchanges_11 : decode cX7_exchanges 11 = .ok (.iadd, 1) := by decide +kernel
theorem dX7_exchanges_12 : decode cX7_exchanges 12 = .ok (.aload_n 0, 1) := by decide +kernel
theorem dX7_exchanges_13 : decode cX7_exchanges 13 = .ok (.bipush 18, 2) := by decide +kernel
theorem dX7_exchanges_15 : decode cX7_exchanges 15 = .ok (.iload_n 2, 1) := by decide +kernel
theorem dX7_exchanges_16 : decode cX7_exchanges 16 = .ok (.iadd, 1) := by decide +kernel
theorem dX7_exchanges_17 : decode cX7_exchanges 17 = .ok (.iaload, 1) := by decide +kernel
theorem dX7_exchanges_18 : decode cX7_exchanges 18 = .ok (.iastore, 1) := by decide +kernel
theorem dX7_exchanges_19 : decode cX7_exchanges 19 = .ok (.aload_n 0, 1) := by decide +kernel
theorem dX7_exchanges_20 : decode cX7_exchanges 20 = .ok (.bipush 18, 2) := by decide +kernel
theorem dX7_exchanges_22 : decode cX7_exchanges 22 = .ok (.iload_n 2, 1) := by decide +kernel
theorem dX7_exchanges_23 : decode cX7_exchanges 23 = .ok (.iadd, 1) := by decide +kernel
theorem dX7_exchanges_24 : decode cX7_exchanges 24 = .ok (.iload_n 3, 1) := by decide +kernel
theorem dX7_exchanges_25 : decode cX7_exchanges 25 = .ok (.iastore, 1) := by decide +kernel
theorem dX7_exchanges_26 : decode cX7_exchanges 26 = .ok (.return_, 1) := by decide +kernel
theorem dX7_ticks_0 : decode cX7_ticks 0 = .ok (.aload_n 0, 1) := by decide +kernel
theorem dX7_ticks_1 : decode cX7_ticks 1 = .ok (.invokevirtual 131, 3) := by decide +kernel
theorem dX7_ticks_4 : decode cX7_ticks 4 = .ok (.ifCond .ne 6, 3) := by decide +kernel
theorem dX7_ticks_7 : decode cX7_ticks 7 = .ok (.ldc 134, 2) := by decide +kernel
theorem dX7_ticks_9 : decode cX7_ticks 9 = .ok (.ireturn, 1) := by decide +kernel
theorem dX7_ticks_10 : decode cX7_ticks 10 = .ok (.iload_n 1, 1) := by decide +kernel
theorem dX7_ticks_11 : decode cX7_ticks 11 = .ok (.iconst 1, 1) := by decide +kernel
theorem dX7_ticks_12 : decode cX7_ticks 12 = .ok (.bipush 24, 2) := by decide +kernel
theorem dX7_ticks_14 : decode cX7_ticks 14 = .ok (.invokestatic 47, 3) := by decide +kernel
theorem dX7_ticks_17 : decode cX7_ticks 17 = .ok (.ifCond .ne 6, 3) := by decide +kernel
theorem dX7_ticks_20 : decode cX7_ticks 20 = .ok (.ldc 62, 2) := by decide +kernel
theorem dX7_ticks_22 : decode cX7_ticks 22 = .ok (.ireturn, 1) := by decide +kernel
theorem dX7_ticks_23 : decode cX7_ticks 23 = .ok (.aload_n 0, 1) := by decide +kernel
theorem dX7_ticks_24 : decode cX7_ticks 24 = .ok (.getfield 25, 3) := by decide +kernel
theorem dX7_ticks_27 : decode cX7_ticks 27 = .ok (.iconst 0, 1) := by decide +kernel
theorem dX7_ticks_28 : decode cX7_ticks 28 = .ok (.iaload, 1) := by decide +kernel
theorem dX7_ticks_29 : decode cX7_ticks 29 = .ok (.iload_n 1, 1) := by decide +kernel
theorem dX7_ticks_30 : decode cX7_ticks 30 = .ok (.iadd, 1) := by decide +kernel
theorem dX7_ticks_31 : decode cX7_ticks 31 = .ok (.sipush 9999, 3) := by decide +kernel
theorem dX7_ticks_34 : decode cX7_ticks 34 = .ok (.if_icmp .le 6, 3) := by decide +kernel
theorem dX7_ticks_37 : decode cX7_ticks 37 = .ok (.ldc 79, 2) := by decide +kernel
theorem dX7_ticks_39 : decode cX7_ticks 39 = .ok (.ireturn, 1) := by decide +kernel
theorem dX7_ticks_40 : decode cX7_ticks 40 = .ok (.iconst 0, 1) := by decide +kernel
theorem dX7_ticks_41 : decode cX7_ticks 41 = .ok (.istore_n 2, 1) := by decide +kernel
theorem dX7_ticks_42 : decode cX7_ticks 42 = .ok (.iload_n 2, 1) := by decide +kernel
theorem dX7_ticks_43 : decode cX7_ticks 43 = .ok (.iload_n 1, 1) := by decide +kernel
theorem dX7_ticks_44 : decode cX7_ticks 44 = .ok (.if_icmp .ge 21, 3) := by decide +kernel
theorem dX7_ticks_47 : decode cX7_ticks 47 = .ok (.aload_n 0, 1) := by decide +kernel
theorem dX7_ticks_48 : decode cX7_ticks 48 = .ok (.invokevirtual 135, 3) := by decide +kernel
theorem dX7_ticks_51 : decode cX7_ticks 51 = .ok (.aload_n 0, 1) := by decide +kernel
theorem dX7_ticks_52 : decode cX7_ticks 52 = .ok (.getfield 25, 3) := by decide +kernel
theorem dX7_ticks_55 : decode cX7_ticks 55 = .ok (.invokestatic 138, 3) := by decide +kernel
theorem dX7_ticks_58 : decode cX7_ticks 58 = .ok (.pop, 1) := by decide +kernel
theorem dX7_ticks_59 : decode cX7_ticks 59 = .ok (.iinc 2 1, 3) := by decide +kernel
theorem dX7_ticks_62 : decode cX7_ticks 62 = .ok (.goto (-20), 3) := by decide +kernel
theorem dX7_ticks_65 : decode cX7_ticks 65 = .ok (.aload_n 0, 1) := by decide +kernel
theorem dX7_ticks_66 : decode cX7_ticks 66 = .ok (.getfield 25, 3) := by decide +kernel
theorem dX7_ticks_69 : decode cX7_ticks 69 = .ok (.invokestatic 142, 3) := by decide +kernel
theorem dX7_ticks_72 : decode cX7_ticks 72 = .ok (.ireturn, 1) := by decide +kernel
theorem dX7_key_0 : decode cX7_key 0 = .ok (.aload_n 0, 1) := by decide +kernel
theorem dX7_key_1 : decode cX7_key 1 = .ok (.iload_n 1, 1) := by decide +kernel
theorem dX7_key_2 : decode cX7_key 2 = .ok (.invokevirtual 145, 3) := by decide +kernel
theorem dX7_key_5 : decode cX7_key 5 = .ok (.ifCond .ne 6, 3) := by decide +kernel
theorem dX7_key_8 : decode cX7_key 8 = .ok (.ldc 62, 2) := by decide +kernel
theorem dX7_key_10 : decode cX7_key 10 = .ok (.ireturn, 1) := by decide +kernel
theorem dX7_key_11 : decode cX7_key 11 = .ok (.aload_n 0, 1) := by decide +kernel
theorem dX7_key_12 : decode cX7_key 12 = .ok (.getfield 25, 3) := by decide +kernel
theorem dX7_key_15 : decode cX7_key 15 = .ok (.iload_n 1, 1) := by decide +kernel
theorem dX7_key_16 : decode cX7_key 16 = .ok (.invokestatic 148, 3) := by decide +kernel
theorem dX7_key_19 : decode cX7_key 19 = .ok (.ifCond .ne 6, 3) := by decide +kernel
theorem dX7_key_22 : decode cX7_key 22 = .ok (.ldc 134, 2) := by decide +kernel
theorem dX7_key_24 : decode cX7_key 24 = .ok (.ireturn, 1) := by decide +kernel
theorem dX7_key_25 : decode cX7_key 25 = .ok (.aload_n 0, 1) := by decide +kernel
theorem dX7_key_26 : decode cX7_key 26 = .ok (.invokevirtual 135, 3) := by decide +kernel
theorem dX7_key_29 : decode cX7_key 29 = .ok (.aload_n 0, 1) := by decide +kernel
theorem dX7_key_30 : decode cX7_key 30 = .ok (.getfield 25, 3) := by decide +kernel
theorem dX7_key_33 : decode cX7_key 33 = .ok (.iconst 2, 1) := by decide +kernel
theorem dX7_key_34 : decode cX7_key 34 = .ok (.iload_n 1, 1) := by decide +kernel
theorem dX7_key_35 : decode cX7_key 35 = .ok (.iadd, 1) := by decide +kernel
theorem dX7_key_36 : decode cX7_key 36 = .ok (.iconst 0, 1) := by decide +kernel
theorem dX7_key_37 : decode cX7_key 37 = .ok (.iastore, 1) := by decide +kernel
theorem dX7_key_38 : decode cX7_key 38 = .ok (.aload_n 0, 1) := by decide +kernel
theorem dX7_key_39 : decode cX7_key 39 = .ok (.getfield 25, 3) := by decide +kernel
theorem dX7_key_42 : decode cX7_key 42 = .ok (.invokestatic 152, 3) := by decide +kernel
theorem dX7_key_45 : decode cX7_key 45 = .ok (.ireturn, 1) := by decide +kernel
theorem dX7_ones_0 : decode cX7_ones 0 = .ok (.iconst 0, 1) := by decide +kernel
theorem dX7_ones_1 : decode cX7_ones 1 = .ok (.istore_n 1, 1) := by decide +kernel
theorem dX7_ones_2 : decode cX7_ones 2 = .ok (.iconst 0, 1) := by decide +kernel
theorem dX7_ones_3 : decode cX7_ones 3 = .ok (.istore_n 2, 1) := by decide +kernel
theorem dX7_ones_4 : decode cX7_ones 4 = .ok (.iload_n 2, 1) := by decide +kernel
theorem dX7_ones_5 : decode cX7_ones 5 = .ok (.bipush 8, 2) := by decide +kernel
theorem dX7_ones_7 : decode cX7_ones 7 = .ok (.if_icmp .ge 17, 3) := by decide +kernel
theorem dX7_ones_10 : decode cX7_ones 10 = .ok (.iload_n 1, 1) := by decide +kernel
theorem dX7_ones_11 : decode cX7_ones 11 = .ok (.iload_n 0, 1) := by decide +kernel
theorem dX7_ones_12 : decode cX7_ones 12 = .ok (.iload_n 2, 1) := by decide +kernel
theorem dX7_ones_13 : decode cX7_ones 13 = .ok (.ishr, 1) := by decide +kernel
theorem dX7_ones_14 : decode cX7_ones 14 = .ok (.iconst 1, 1) := by decide +kernel
theorem dX7_ones_15 : decode cX7_ones 15 = .ok (.iand, 1) := by decide +kernel
theorem dX7_ones_16 : decode cX7_ones 16 = .ok (.iadd, 1) := by decide +kernel
theorem dX7_ones_17 : decode cX7_ones 17 = .ok (.istore_n 1, 1) := by decide +kernel
theorem dX7_ones_18 : decode cX7_ones 18 = .ok (.iinc 2 1, 3) := by decide +kernel
theorem dX7_ones_21 : decode cX7_ones 21 = .ok (.goto (-17), 3) := by decide +kernel
theorem dX7_ones_24 : decode cX7_ones 24 = .ok (.iload_n 1, 1) := by decide +kernel
theorem dX7_ones_25 : decode cX7_ones 25 = .ok (.ireturn, 1) := by decide +kernel
theorem dX7_free_0 : decode cX7_free 0 = .ok (.aload_n 0, 1) := by decide +kernel
theorem dX7_free_1 : decode cX7_free 1 = .ok (.getfield 25, 3) := by decide +kernel
theorem dX7_free_4 : decode cX7_free 4 = .ok (.invokestatic 142, 3) := by decide +kernel
theorem dX7_free_7 : decode cX7_free 7 = .ok (.invokestatic 155, 3) := by decide +kernel
theorem dX7_free_10 : decode cX7_free 10 = .ok (.istore_n 1, 1) := by decide +kernel
theorem dX7_free_11 : decode cX7_free 11 = .ok (.iload_n 1, 1) := by decide +kernel
theorem dX7_free_12 : decode cX7_free 12 = .ok (.ifCond .ne 6, 3) := by decide +kernel
theorem dX7_free_15 : decode cX7_free 15 = .ok (.ldc 134, 2) := by decide +kernel
theorem dX7_free_17 : decode cX7_free 17 = .ok (.ireturn, 1) := by decide +kernel
theorem dX7_free_18 : decode cX7_free 18 = .ok (.aload_n 0, 1) := by decide +kernel
theorem dX7_free_19 : decode cX7_free 19 = .ok (.invokevirtual 135, 3) := by decide +kernel
theorem dX7_free_22 : decode cX7_free 22 = .ok (.aload_n 0, 1) := by decide +kernel
theorem dX7_free_23 : decode cX7_free 23 = .ok (.getfield 25, 3) := by decide +kernel
theorem dX7_free_26 : decode cX7_free 26 = .ok (.invokestatic 158, 3) := by decide +kernel
theorem dX7_free_29 : decode cX7_free 29 = .ok (.iload_n 1, 1) := by decide +kernel
theorem dX7_free_30 : decode cX7_free 30 = .ok (.ireturn, 1) := by decide +kernel
theorem dX7_back_0 : decode cX7_back 0 = .ok (.aload_n 0, 1) := by decide +kernel
theorem dX7_back_1 : decode cX7_back 1 = .ok (.invokevirtual 131, 3) := by decide +kernel
theorem dX7_back_4 : decode cX7_back 4 = .ok (.ifCond .ne 6, 3) := by decide +kernel
theorem dX7_back_7 : decode cX7_back 7 = .ok (.ldc 134, 2) := by decide +kernel
theorem dX7_back_9 : decode cX7_back 9 = .ok (.ireturn, 1) := by decide +kernel
theorem dX7_back_10 : decode cX7_back 10 = .ok (.aload_n 0, 1) := by decide +kernel
theorem dX7_back_11 : decode cX7_back 11 = .ok (.invokevirtual 135, 3) := by decide +kernel
theorem dX7_back_14 : decode cX7_back 14 = .ok (.aload_n 0, 1) := by decide +kernel
theorem dX7_back_15 : decode cX7_back 15 = .ok (.getfield 25, 3) := by decide +kernel
theorem dX7_back_18 : decode cX7_back 18 = .ok (.iconst 1, 1) := by decide +kernel
theorem dX7_back_19 : decode cX7_back 19 = .ok (.iaload, 1) := by decide +kernel
theorem dX7_back_20 : decode cX7_back 20 = .ok (.istore_n 1, 1) := by decide +kernel
theorem dX7_back_21 : decode cX7_back 21 = .ok (.aload_n 0, 1) := by decide +kernel
theorem dX7_back_22 : decode cX7_back 22 = .ok (.getfield 25, 3) := by decide +kernel
theorem dX7_back_25 : decode cX7_back 25 = .ok (.iconst 1, 1) := by decide +kernel
theorem dX7_back_26 : decode cX7_back 26 = .ok (.iconst 0, 1) := by decide +kernel
theorem dX7_back_27 : decode cX7_back 27 = .ok (.iastore, 1) := by decide +kernel
theorem dX7_back_28 : decode cX7_back 28 = .ok (.iconst 0, 1) := by decide +kernel
theorem dX7_back_29 : decode cX7_back 29 = .ok (.istore_n 2, 1) := by decide +kernel
theorem dX7_back_30 : decode cX7_back 30 = .ok (.iload_n 2, 1) := by decide +kernel
theorem dX7_back_31 : decode cX7_back 31 = .ok (.bipush 20, 2) := by decide +kernel
theorem dX7_back_33 : decode cX7_back 33 = .ok (.if_icmp .ge 19, 3) := by decide +kernel
theorem dX7_back_36 : decode cX7_back 36 = .ok (.aload_n 0, 1) := by decide +kernel
theorem dX7_back_37 : decode cX7_back 37 = .ok (.getfield 25, 3) := by decide +kernel
theorem dX7_back_40 : decode cX7_back 40 = .ok (.bipush 26, 2) := by decide +kernel
theorem dX7_back_42 : decode cX7_back 42 = .ok (.iload_n 2, 1) := by decide +kernel
theorem dX7_back_43 : decode cX7_back 43 = .ok (.iadd, 1) := by decide +kernel
theorem dX7_back_44 : decode cX7_back 44 = .ok (.iconst 0, 1) := by decide +kernel
theorem dX7_back_45 : decode cX7_back 45 = .ok (.iastore, 1) := by decide +kernel
theorem dX7_back_46 : decode cX7_back 46 = .ok (.iinc 2 1, 3) := by decide +kernel
theorem dX7_back_49 : decode cX7_back 49 = .ok (.goto (-19), 3) := by decide +kernel
theorem dX7_back_52 : decode cX7_back 52 = .ok (.iload_n 1, 1) := by decide +kernel
theorem dX7_back_53 : decode cX7_back 53 = .ok (.ireturn, 1) := by decide +kernel
theorem dX7_swap_0 : decode cX7_swap 0 = .ok (.aload_n 0, 1) := by decide +kernel
theorem dX7_swap_1 : decode cX7_swap 1 = .ok (.iload_n 1, 1) := by decide +kernel
theorem dX7_swap_2 : decode cX7_swap 2 = .ok (.invokevirtual 145, 3) := by decide +kernel
theorem dX7_swap_5 : decode cX7_swap 5 = .ok (.ifCond .eq 16, 3) := by decide +kernel
theorem dX7_swap_8 : decode cX7_swap 8 = .ok (.aload_n 0, 1) := by decide +kernel
theorem dX7_swap_9 : decode cX7_swap 9 = .ok (.iload_n 2, 1) := by decide +kernel
theorem dX7_swap_10 : decode cX7_swap 10 = .ok (.invokevirtual 145, 3) := by decide +kernel
theorem dX7_swap_13 : decode cX7_swap 13 = .ok (.ifCond .eq 8, 3) := by decide +kernel
theorem dX7_swap_16 : decode cX7_swap 16 = .ok (.iload_n 1, 1) := by decide +kernel
theorem dX7_swap_17 : decode cX7_swap 17 = .ok (.iload_n 2, 1) := by decide +kernel
theorem dX7_swap_18 : decode cX7_swap 18 = .ok (.if_icmp .ne 6, 3) := by decide +kernel
theorem dX7_swap_21 : decode cX7_swap 21 = .ok (.ldc 62, 2) := by decide +kernel
theorem dX7_swap_23 : decode cX7_swap 23 = .ok (.ireturn, 1) := by decide +kernel
theorem dX7_swap_24 : decode cX7_swap 24 = .ok (.aload_n 0, 1) := by decide +kernel
theorem dX7_swap_25 : decode cX7_swap 25 = .ok (.invokevirtual 135, 3) := by decide +kernel
theorem dX7_swap_28 : decode cX7_swap 28 = .ok (.aload_n 0, 1) := by decide +kernel
theorem dX7_swap_29 : decode cX7_swap 29 = .ok (.getfield 25, 3) := by decide +kernel
theorem dX7_swap_32 : decode cX7_swap 32 = .ok (.iload_n 1, 1) := by decide +kernel
theorem dX7_swap_33 : decode cX7_swap 33 = .ok (.iload_n 2, 1) := by decide +kernel
theorem dX7_swap_34 : decode cX7_swap 34 = .ok (.invokestatic 162, 3) := by decide +kernel
theorem dX7_swap_37 : decode cX7_swap 37 = .ok (.aload_n 0, 1) := by decide +kernel
theorem dX7_swap_38 : decode cX7_swap 38 = .ok (.getfield 25, 3) := by decide +kernel
theorem dX7_swap_41 : decode cX7_swap 41 = .ok (.bipush 18, 2) := by decide +kernel
theorem dX7_swap_43 : decode cX7_swap 43 = .ok (.iload_n 1, 1) := by decide +kernel
theorem dX7_swap_44 : decode cX7_swap 44 = .ok (.iadd, 1) := by decide +kernel
theorem dX7_swap_45 : decode cX7_swap 45 = .ok (.iaload, 1) := by decide +kernel
theorem dX7_swap_46 : decode cX7_swap 46 = .ok (.ireturn, 1) := by decide +kernel
theorem dX7_undo_0 : decode cX7_undo 0 = .ok (.aload_n 0, 1) := by decide +kernel
theorem dX7_undo_1 : decode cX7_undo 1 = .ok (.getfield 109, 3) := by decide +kernel
theorem dX7_undo_4 : decode cX7_undo 4 = .ok (.ifCond .ne 6, 3) := by decide +kernel
theorem dX7_undo_7 : decode cX7_undo 7 = .ok (.ldc 134, 2) := by decide +kernel
theorem dX7_undo_9 : decode cX7_undo 9 = .ok (.ireturn, 1) := by decide +kernel
theorem dX7_undo_10 : decode cX7_undo 10 = .ok (.aload_n 0, 1) := by decide +kernel
theorem dX7_undo_11 : decode cX7_undo 11 = .ok (.dup, 1) := by decide +kernel
theorem dX7_undo_12 : decode cX7_undo 12 = .ok (.getfield 109, 3) := by decide +kernel
theorem dX7_undo_15 : decode cX7_undo 15 = .ok (.iconst 1, 1) := by decide +kernel
theorem dX7_undo_16 : decode cX7_undo 16 = .ok (.isub, 1) := by decide +kernel
theorem dX7_undo_17 : decode cX7_undo 17 = .ok (.putfield 109, 3) := by decide +kernel
theorem dX7_undo_20 : decode cX7_undo 20 = .ok (.iconst 0, 1) := by decide +kernel
theorem dX7_undo_21 : decode cX7_undo 21 = .ok (.istore_n 1, 1) := by decide +kernel
theorem dX7_undo_22 : decode cX7_undo 22 = .ok (.iload_n 1, 1) := by decide +kernel
theorem dX7_undo_23 : decode cX7_undo 23 = .ok (.bipush 46, 2) := by decide +kernel
theorem dX7_undo_25 : decode cX7_undo 25 = .ok (.if_icmp .ge 29, 3) := by decide +kernel
theorem dX7_undo_28 : decode cX7_undo 28 = .ok (.aload_n 0, 1) := by decide +kernel
theorem dX7_undo_29 : decode cX7_undo 29 = .ok (.getfield 25, 3) := by decide +kernel
theorem dX7_undo_32 : decode cX7_undo 32 = .ok (.iload_n 1, 1) := by decide +kernel
theorem dX7_undo_33 : decode cX7_undo 33 = .ok (.aload_n 0, 1) := by decide +kernel
theorem dX7_undo_34 : decode cX7_undo 34 = .ok (.getfield 38, 3) := by decide +kernel
theorem dX7_undo_37 : decode cX7_undo 37 = .ok (.bipush 46, 2) := by decide +kernel
theorem dX7_undo_39 : decode cX7_undo 39 = .ok (.aload_n 0, 1) := by decide +kernel
theorem dX7_undo_40 : decode cX7_undo 40 = .ok (.getfield 109, 3) := by decide +kernel
theorem dX7_undo_43 : decode cX7_undo 43 = .ok (.imul, 1) := by decide +kernel
theorem dX7_undo_44 : decode cX7_undo 44 = .ok (.iload_n 1, 1) := by decide +kernel
theorem dX7_undo_45 : decode cX7_undo 45 = .ok (.iadd, 1) := by decide +kernel
theorem dX7_undo_46 : decode cX7_undo 46 = .ok (.iaload, 1) := by decide +kernel
theorem dX7_undo_47 : decode cX7_undo 47 = .ok (.iastore, 1) := by decide +kernel
theorem dX7_undo_48 : decode cX7_undo 48 = .ok (.iinc 1 1, 3) := by decide +kernel
theorem dX7_undo_51 : decode cX7_undo 51 = .ok (.goto (-29), 3) := by decide +kernel
theorem dX7_undo_54 : decode cX7_undo 54 = .ok (.aload_n 0, 1) := by decide +kernel
theorem dX7_undo_55 : decode cX7_undo 55 = .ok (.getfield 109, 3) := by decide +kernel
theorem dX7_undo_58 : decode cX7_undo 58 = .ok (.ireturn, 1) := by decide +kernel
theorem dX7_bar_0 : decode cX7_bar 0 = .ok (.aload_n 0, 1) := by decide +kernel
theorem dX7_bar_1 : decode cX7_bar 1 = .ok (.iload_n 1, 1) := by decide +kernel
theorem dX7_bar_2 : decode cX7_bar 2 = .ok (.invokevirtual 145, 3) := by decide +kernel
theorem dX7_bar_5 : decode cX7_bar 5 = .ok (.ifCond .ne 6, 3) := by decide +kernel
theorem dX7_bar_8 : decode cX7_bar 8 = .ok (.ldc 62, 2) := by decide +kernel
theorem dX7_bar_10 : decode cX7_bar 10 = .ok (.ireturn, 1) := by decide +kernel
theorem dX7_bar_11 : decode cX7_bar 11 = .ok (.iload_n 2, 1) := by decide +kernel
theorem dX7_bar_12 : decode cX7_bar 12 = .ok (.tableswitch 121 0 5 #[40, 50, 60, 69, 94, 112], 40) := by decide +kernel
theorem dX7_bar_52 : decode cX7_bar 52 = .ok (.aload_n 0, 1) := by decide +kernel
theorem dX7_bar_53 : decode cX7_bar 53 = .ok (.getfield 25, 3) := by decide +kernel
theorem dX7_bar_56 : decode cX7_bar 56 = .ok (.bipush 47, 2) := by decide +kernel
theorem dX7_bar_58 : decode cX7_bar 58 = .ok (.iload_n 1, 1) := by decide +kernel
theorem dX7_bar_59 : decode cX7_bar 59 = .ok (.iadd, 1) := by decide +kernel
theorem dX7_bar_60 : decode cX7_bar 60 = .ok (.iaload, 1) := by decide +kernel
theorem dX7_bar_61 : decode cX7_bar 61 = .ok (.ireturn, 1) := by decide +kernel
theorem dX7_bar_62 : decode cX7_bar 62 = .ok (.aload_n 0, 1) := by decide +kernel
theorem dX7_bar_63 : decode cX7_bar 63 = .ok (.getfield 25, 3) := by decide +kernel
theorem dX7_bar_66 : decode cX7_bar 66 = .ok (.bipush 18, 2) := by decide +kernel
theorem dX7_bar_68 : decode cX7_bar 68 = .ok (.iload_n 1, 1) := by decide +kernel
theorem dX7_bar_69 : decode cX7_bar 69 = .ok (.iadd, 1) := by decide +kernel
theorem dX7_bar_70 : decode cX7_bar 70 = .ok (.iaload, 1) := by decide +kernel
theorem dX7_bar_71 : decode cX7_bar 71 = .ok (.ireturn, 1) := by decide +kernel
theorem dX7_bar_72 : decode cX7_bar 72 = .ok (.aload_n 0, 1) := by decide +kernel
theorem dX7_bar_73 : decode cX7_bar 73 = .ok (.getfield 25, 3) := by decide +kernel
theorem dX7_bar_76 : decode cX7_bar 76 = .ok (.iload_n 1, 1) := by decide +kernel
theorem dX7_bar_77 : decode cX7_bar 77 = .ok (.invokestatic 116, 3) := by decide +kernel
theorem dX7_bar_80 : decode cX7_bar 80 = .ok (.ireturn, 1) := by decide +kernel
theorem dX7_bar_81 : decode cX7_bar 81 = .ok (.aload_n 0, 1) := by decide +kernel
theorem dX7_bar_82 : decode cX7_bar 82 = .ok (.getfield 25, 3) := by decide +kernel
theorem dX7_bar_85 : decode cX7_bar 85 = .ok (.iconst 2, 1) := by decide +kernel
theorem dX7_bar_86 : decode cX7_bar 86 = .ok (.iload_n 1, 1) := by decide +kernel
theorem dX7_bar_87 : decode cX7_bar 87 = .ok (.iadd, 1) := by decide +kernel
theorem dX7_bar_88 : decode cX7_bar 88 = .ok (.iaload, 1) := by decide +kernel
theorem dX7_bar_89 : decode cX7_bar 89 = .ok (.ifCond .ge 8, 3) := by decide +kernel
theorem dX7_bar_92 : decode cX7_bar 92 = .ok (.ldc 166, 2) := by decide +kernel
theorem dX7_bar_94 : decode cX7_bar 94 = .ok (.goto 11, 3) := by decide +kernel
theorem dX7_bar_97 : decode cX7_bar 97 = .ok (.aload_n 0, 1) := by decide +kernel
theorem dX7_bar_98 : decode cX7_bar 98 = .ok (.getfield 25, 3) := by decide +kernel
theorem dX7_bar_101 : decode cX7_bar 101 = .ok (.iconst 2, 1) := by decide +kernel
theorem dX7_bar_102 : decode cX7_bar 102 = .ok (.iload_n 1, 1) := by decide +kernel
theorem dX7_bar_103 : decode cX7_bar 103 = .ok (.iadd, 1) := by decide +kernel
theorem dX7_bar_104 : decode cX7_bar 104 = .ok (.iaload, 1) := by decide +kernel
theorem dX7_bar_105 : decode cX7_bar 105 = .ok (.ireturn, 1) := by decide +kernel
theorem dX7_bar_106 : decode cX7_bar 106 = .ok (.aload_n 0, 1) := by decide +kernel
theorem dX7_bar_107 : decode cX7_bar 107 = .ok (.getfield 25, 3) := by decide +kernel
theorem dX7_bar_110 : decode cX7_bar 110 = .ok (.bipush 10, 2) := by decide +kernel
theorem dX7_bar_112 : decode cX7_bar 112 = .ok (.iload_n 1, 1) := by decide +kernel
theorem dX7_bar_113 : decode cX7_bar 113 = .ok (.iadd, 1) := by decide +kernel
theorem dX7_bar_114 : decode cX7_bar 114 = .ok (.iaload, 1) := by decide +kernel
theorem dX7_bar_115 : decode cX7_bar 115 = .ok (.ifCond .le 7, 3) := by decide +kernel
theorem dX7_bar_118 : decode cX7_bar 118 = .ok (.iconst 1, 1) := by decide +kernel
theorem dX7_bar_119 : decode cX7_bar 119 = .ok (.goto 4, 3) := by decide +kernel
theorem dX7_bar_122 : decode cX7_bar 122 = .ok (.iconst 0, 1) := by decide +kernel
theorem dX7_bar_123 : decode cX7_bar 123 = .ok (.ireturn, 1) := by decide +kernel
theorem dX7_bar_124 : decode cX7_bar 124 = .ok (.aload_n 0, 1) := by decide +kernel
theorem dX7_bar_125 : decode cX7_bar 125 = .ok (.getfield 25, 3) := by decide +kernel
theorem dX7_bar_128 : decode cX7_bar 128 = .ok (.iload_n 1, 1) := by decide +kernel
theorem dX7_bar_129 : decode cX7_bar 129 = .ok (.invokestatic 112, 3) := by decide +kernel
theorem dX7_bar_132 : decode cX7_bar 132 = .ok (.ireturn, 1) := by decide +kernel
theorem dX7_bar_133 : decode cX7_bar 133 = .ok (.ldc 62, 2) := by decide +kernel
theorem dX7_bar_135 : decode cX7_bar 135 = .ok (.ireturn, 1) := by decide +kernel
theorem dX7_paper_0 : decode cX7_paper 0 = .ok (.iload_n 1, 1) := by decide +kernel
theorem dX7_paper_1 : decode cX7_paper 1 = .ok (.iconst 0, 1) := by decide +kernel
theorem dX7_paper_2 : decode cX7_paper 2 = .ok (.bipush 19, 2) := by decide +kernel
theorem dX7_paper_4 : decode cX7_paper 4 = .ok (.invokestatic 47, 3) := by decide +kernel
theorem dX7_paper_7 : decode cX7_paper 7 = .ok (.ifCond .ne 6, 3) := by decide +kernel
theorem dX7_paper_10 : decode cX7_paper 10 = .ok (.ldc 62, 2) := by decide +kernel
theorem dX7_paper_12 : decode cX7_paper 12 = .ok (.ireturn, 1) := by decide +kernel
theorem dX7_paper_13 : decode cX7_paper 13 = .ok (.aload_n 0, 1) := by decide +kernel
theorem dX7_paper_14 : decode cX7_paper 14 = .ok (.getfield 25, 3) := by decide +kernel
theorem dX7_paper_17 : decode cX7_paper 17 = .ok (.bipush 26, 2) := by decide +kernel
theorem dX7_paper_19 : decode cX7_paper 19 = .ok (.iload_n 1, 1) := by decide +kernel
theorem dX7_paper_20 : decode cX7_paper 20 = .ok (.iadd, 1) := by decide +kernel
theorem dX7_paper_21 : decode cX7_paper 21 = .ok (.iaload, 1) := by decide +kernel
theorem dX7_paper_22 : decode cX7_paper 22 = .ok (.ifCond .ne 8, 3) := by decide +kernel
theorem dX7_paper_25 : decode cX7_paper 25 = .ok (.ldc 166, 2) := by decide +kernel
theorem dX7_paper_27 : decode cX7_paper 27 = .ok (.goto 14, 3) := by decide +kernel
theorem dX7_paper_30 : decode cX7_paper 30 = .ok (.aload_n 0, 1) := by decide +kernel
theorem dX7_paper_31 : decode cX7_paper 31 = .ok (.getfield 25, 3) := by decide +kernel
theorem dX7_paper_34 : decode cX7_paper 34 = .ok (.bipush 26, 2) := by decide +kernel
theorem dX7_paper_36 : decode cX7_paper 36 = .ok (.iload_n 1, 1) := by decide +kernel
theorem dX7_paper_37 : decode cX7_paper 37 = .ok (.iadd, 1) := by decide +kernel
theorem dX7_paper_38 : decode cX7_paper 38 = .ok (.iaload, 1) := by decide +kernel
theorem dX7_paper_39 : decode cX7_paper 39 = .ok (.iconst 1, 1) := by decide +kernel
theorem dX7_paper_40 : decode cX7_paper 40 = .ok (.isub, 1) := by decide +kernel
theorem dX7_paper_41 : decode cX7_paper 41 = .ok (.ireturn, 1) := by decide +kernel
theorem dX7_copies_0 : decode cX7_copies 0 = .ok (.iconst 0, 1) := by decide +kernel
theorem dX7_copies_1 : decode cX7_copies 1 = .ok (.istore_n 2, 1) := by decide +kernel
theorem dX7_copies_2 : decode cX7_copies 2 = .ok (.iload_n 2, 1) := by decide +kernel
theorem dX7_copies_3 : decode cX7_copies 3 = .ok (.bipush 63, 2) := by decide +kernel
theorem dX7_copies_5 : decode cX7_copies 5 = .ok (.if_icmp .ge 15, 3) := by decide +kernel
theorem dX7_copies_8 : decode cX7_copies 8 = .ok (.aload_n 1, 1) := by decide +kernel
theorem dX7_copies_9 : decode cX7_copies 9 = .ok (.iload_n 2, 1) := by decide +kernel
theorem dX7_copies_10 : decode cX7_copies 10 = .ok (.aload_n 0, 1) := by decide +kernel
theorem dX7_copies_11 : decode cX7_copies 11 = .ok (.iload_n 2, 1) := by decide +kernel
theorem dX7_copies_12 : decode cX7_copies 12 = .ok (.iaload, 1) := by decide +kernel
theorem dX7_copies_13 : decode cX7_copies 13 = .ok (.iastore, 1) := by decide +kernel
theorem dX7_copies_14 : decode cX7_copies 14 = .ok (.iinc 2 1, 3) := by decide +kernel
theorem dX7_copies_17 : decode cX7_copies 17 = .ok (.goto (-15), 3) := by decide +kernel
theorem dX7_copies_20 : decode cX7_copies 20 = .ok (.return_, 1) := by decide +kernel
theorem dX7_goesOn_0 : decode cX7_goesOn 0 = .ok (.aload_n 0, 1) := by decide +kernel
theorem dX7_goesOn_1 : decode cX7_goesOn 1 = .ok (.getfield 25, 3) := by decide +kernel
theorem dX7_goesOn_4 : decode cX7_goesOn 4 = .ok (.aload_n 0, 1) := by decide +kernel
theorem dX7_goesOn_5 : decode cX7_goesOn 5 = .ok (.getfield 41, 3) := by decide +kernel
theorem dX7_goesOn_8 : decode cX7_goesOn 8 = .ok (.invokestatic 167, 3) := by decide +kernel
theorem dX7_goesOn_11 : decode cX7_goesOn 11 = .ok (.iconst 0, 1) := by decide +kernel
theorem dX7_goesOn_12 : decode cX7_goesOn 12 = .ok (.istore_n 2, 1) := by decide +kernel
theorem dX7_goesOn_13 : decode cX7_goesOn 13 = .ok (.iload_n 2, 1) := by decide +kernel
theorem dX7_goesOn_14 : decode cX7_goesOn 14 = .ok (.iload_n 1, 1) := by decide +kernel
theorem dX7_goesOn_15 : decode cX7_goesOn 15 = .ok (.if_icmp .ge 17, 3) := by decide +kernel
theorem dX7_goesOn_18 : decode cX7_goesOn 18 = .ok (.aload_n 0, 1) := by decide +kernel
theorem dX7_goesOn_19 : decode cX7_goesOn 19 = .ok (.getfield 41, 3) := by decide +kernel
theorem dX7_goesOn_22 : decode cX7_goesOn 22 = .ok (.invokestatic 138, 3) := by decide +kernel
theorem dX7_goesOn_25 : decode cX7_goesOn 25 = .ok (.pop, 1) := by decide +kernel
theorem dX7_goesOn_26 : decode cX7_goesOn 26 = .ok (.iinc 2 1, 3) := by decide +kernel
theorem dX7_goesOn_29 : decode cX7_goesOn 29 = .ok (.goto (-16), 3) := by decide +kernel
theorem dX7_goesOn_32 : decode cX7_goesOn 32 = .ok (.return_, 1) := by decide +kernel
theorem dX7_height_0 : decode cX7_height 0 = .ok (.aload_n 0, 1) := by decide +kernel
theorem dX7_height_1 : decode cX7_height 1 = .ok (.iload_n 1, 1) := by decide +kernel
theorem dX7_height_2 : decode cX7_height 2 = .ok (.invokevirtual 145, 3) := by decide +kernel
theorem dX7_height_5 : decode cX7_height 5 = .ok (.ifCond .eq 13, 3) := by decide +kernel
theorem dX7_height_8 : decode cX7_height 8 = .ok (.iload_n 2, 1) := by decide +kernel
theorem dX7_height_9 : decode cX7_height 9 = .ok (.iconst 0, 1) := by decide +kernel
theorem dX7_height_10 : decode cX7_height 10 = .ok (.bipush 60, 2) := by decide +kernel
theorem dX7_height_12 : decode cX7_height 12 = .ok (.invokestatic 47, 3) := by decide +kernel
theorem dX7_height_15 : decode cX7_height 15 = .ok (.ifCond .ne 6, 3) := by decide +kernel
theorem dX7_height_18 : decode cX7_height 18 = .ok (.ldc 62, 2) := by decide +kernel
theorem dX7_height_20 : decode cX7_height 20 = .ok (.ireturn, 1) := by decide +kernel
theorem dX7_height_21 : decode cX7_height 21 = .ok (.aload_n 0, 1) := by decide +kernel
theorem dX7_height_22 : decode cX7_height 22 = .ok (.iload_n 2, 1) := by decide +kernel
theorem dX7_height_23 : decode cX7_height 23 = .ok (.invokevirtual 171, 3) := by decide +kernel
theorem dX7_height_26 : decode cX7_height 26 = .ok (.aload_n 0, 1) := by decide +kernel
theorem dX7_height_27 : decode cX7_height 27 = .ok (.getfield 41, 3) := by decide +kernel
theorem dX7_height_30 : decode cX7_height 30 = .ok (.iload_n 1, 1) := by decide +kernel
theorem dX7_height_31 : decode cX7_height 31 = .ok (.invokestatic 116, 3) := by decide +kernel
theorem dX7_height_34 : decode cX7_height 34 = .ok (.ireturn, 1) := by decide +kernel
theorem dX7_later_0 : decode cX7_later 0 = .ok (.aload_n 0, 1) := by decide +kernel
theorem dX7_later_1 : decode cX7_later 1 = .ok (.invokevirtual 131, 3) := by decide +kernel
theorem dX7_later_4 : decode cX7_later 4 = .ok (.ifCond .ne 6, 3) := by decide +kernel
theorem dX7_later_7 : decode cX7_later 7 = .ok (.ldc 134, 2) := by decide +kernel
theorem dX7_later_9 : decode cX7_later 9 = .ok (.ireturn, 1) := by decide +kernel
theorem dX7_later_10 : decode cX7_later 10 = .ok (.iload_n 1, 1) := by decide +kernel
theorem dX7_later_11 : decode cX7_later 11 = .ok (.iconst 0, 1) := by decide +kernel
theorem dX7_later_12 : decode cX7_later 12 = .ok (.bipush 60, 2) := by decide +kernel
theorem dX7_later_14 : decode cX7_later 14 = .ok (.invokestatic 47, 3) := by decide +kernel
theorem dX7_later_17 : decode cX7_later 17 = .ok (.ifCond .eq 12, 3) := by decide +kernel
theorem dX7_later_20 : decode cX7_later 20 = .ok (.iload_n 2, 1) := by decide +kernel
theorem dX7_later_21 : decode cX7_later 21 = .ok (.iconst 0, 1) := by decide +kernel
theorem dX7_later_22 : decode cX7_later 22 = .ok (.iconst 2, 1) := by decide +kernel
theorem dX7_later_23 : decode cX7_later 23 = .ok (.invokestatic 47, 3) := by decide +kernel
theorem dX7_later_26 : decode cX7_later 26 = .ok (.ifCond .ne 6, 3) := by decide +kernel
theorem dX7_later_29 : decode cX7_later 29 = .ok (.ldc 62, 2) := by decide +kernel
theorem dX7_later_31 : decode cX7_later 31 = .ok (.ireturn, 1) := by decide +kernel
theorem dX7_later_32 : decode cX7_later 32 = .ok (.aload_n 0, 1) := by decide +kernel
theorem dX7_later_33 : decode cX7_later 33 = .ok (.iload_n 1, 1) := by decide +kernel
theorem dX7_later_34 : decode cX7_later 34 = .ok (.invokevirtual 171, 3) := by decide +kernel
theorem dX7_later_37 : decode cX7_later 37 = .ok (.iload_n 2, 1) := by decide +kernel
theorem dX7_later_38 : decode cX7_later 38 = .ok (.ifCond .ne 13, 3) := by decide +kernel
theorem dX7_later_41 : decode cX7_later 41 = .ok (.aload_n 0, 1) := by decide +kernel
theorem dX7_later_42 : decode cX7_later 42 = .ok (.getfield 41, 3) := by decide +kernel
theorem dX7_later_45 : decode cX7_later 45 = .ok (.invokestatic 142, 3) := by decide +kernel
theorem dX7_later_48 : decode cX7_later 48 = .ok (.goto 24, 3) := by decide +kernel
theorem dX7_later_51 : decode cX7_later 51 = .ok (.iload_n 2, 1) := by decide +kernel
theorem dX7_later_52 : decode cX7_later 52 = .ok (.iconst 1, 1) := by decide +kernel
theorem dX7_later_53 : decode cX7_later 53 = .ok (.if_icmp .ne 13, 3) := by decide +kernel
theorem dX7_later_56 : decode cX7_later 56 = .ok (.aload_n 0, 1) := by decide +kernel
theorem dX7_later_57 : decode cX7_later 57 = .ok (.getfield 41, 3) := by decide +kernel
theorem dX7_later_60 : decode cX7_later 60 = .ok (.invokestatic 152, 3) := by decide +kernel
theorem dX7_later_63 : decode cX7_later 63 = .ok (.goto 9, 3) := by decide +kernel
theorem dX7_later_66 : decode cX7_later 66 = .ok (.aload_n 0, 1) := by decide +kernel
theorem dX7_later_67 : decode cX7_later 67 = .ok (.getfield 41, 3) := by decide +kernel
theorem dX7_later_70 : decode cX7_later 70 = .ok (.iconst 1, 1) := by decide +kernel
theorem dX7_later_71 : decode cX7_later 71 = .ok (.iaload, 1) := by decide +kernel
theorem dX7_later_72 : decode cX7_later 72 = .ok (.ireturn, 1) := by decide +kernel
theorem dX7_jam_0 : decode cX7_jam 0 = .ok (.aload_n 0, 1) := by decide +kernel
theorem dX7_jam_1 : decode cX7_jam 1 = .ok (.invokevirtual 131, 3) := by decide +kernel
theorem dX7_jam_4 : decode cX7_jam 4 = .ok (.ifCond .ne 6, 3) := by decide +kernel
theorem dX7_jam_7 : decode cX7_jam 7 = .ok (.ldc 134, 2) := by decide +kernel
theorem dX7_jam_9 : decode cX7_jam 9 = .ok (.ireturn, 1) := by decide +kernel
theorem dX7_jam_10 : decode cX7_jam 10 = .ok (.iload_n 1, 1) := by decide +kernel
theorem dX7_jam_11 : decode cX7_jam 11 = .ok (.iconst 0, 1) := by decide +kernel
theorem dX7_jam_12 : decode cX7_jam 12 = .ok (.iconst 1, 1) := by decide +kernel
theorem dX7_jam_13 : decode cX7_jam 13 = .ok (.invokestatic 47, 3) := by decide +kernel
theorem dX7_jam_16 : decode cX7_jam 16 = .ok (.ifCond .ne 6, 3) := by decide +kernel
theorem dX7_jam_19 : decode cX7_jam 19 = .ok (.ldc 62, 2) := by decide +kernel
theorem dX7_jam_21 : decode cX7_jam 21 = .ok (.ireturn, 1) := by decide +kernel
theorem dX7_jam_22 : decode cX7_jam 22 = .ok (.aload_n 0, 1) := by decide +kernel
theorem dX7_jam_23 : decode cX7_jam 23 = .ok (.getfield 25, 3) := by decide +kernel
theorem dX7_jam_26 : decode cX7_jam 26 = .ok (.aload_n 0, 1) := by decide +kernel
theorem dX7_jam_27 : decode cX7_jam 27 = .ok (.getfield 41, 3) := by decide +kernel
theorem dX7_jam_30 : decode cX7_jam 30 = .ok (.invokestatic 167, 3) := by decide +kernel
theorem dX7_jam_33 : decode cX7_jam 33 = .ok (.iconst 0, 1) := by decide +kernel
theorem dX7_jam_34 : decode cX7_jam 34 = .ok (.istore_n 2, 1) := by decide +kernel
theorem dX7_jam_35 : decode cX7_jam 35 = .ok (.iload_n 2, 1) := by decide +kernel
theorem dX7_jam_36 : decode cX7_jam 36 = .ok (.bipush 60, 2) := by decide +kernel
theorem dX7_jam_38 : decode cX7_jam 38 = .ok (.if_icmp .gt 43, 3) := by decide +kernel
theorem dX7_jam_41 : decode cX7_jam 41 = .ok (.aload_n 0, 1) := by decide +kernel
theorem dX7_jam_42 : decode cX7_jam 42 = .ok (.getfield 41, 3) := by decide +kernel
theorem dX7_jam_45 : decode cX7_jam 45 = .ok (.invokestatic 142, 3) := by decide +kernel
theorem dX7_jam_48 : decode cX7_jam 48 = .ok (.ifCond .eq 19, 3) := by decide +kernel
theorem dX7_jam_51 : decode cX7_jam 51 = .ok (.iload_n 1, 1) := by decide +kernel
theorem dX7_jam_52 : decode cX7_jam 52 = .ok (.ifCond .ne 7, 3) := by decide +kernel
theorem dX7_jam_55 : decode cX7_jam 55 = .ok (.iload_n 2, 1) := by decide +kernel
theorem dX7_jam_56 : decode cX7_jam 56 = .ok (.goto 10, 3) := by decide +kernel
theorem dX7_jam_59 : decode cX7_jam 59 = .ok (.aload_n 0, 1) := by decide +kernel
theorem dX7_jam_60 : decode cX7_jam 60 = .ok (.getfield 41, 3) := by decide +kernel
theorem dX7_jam_63 : decode cX7_jam 63 = .ok (.invokestatic 142, 3) := by decide +kernel
theorem dX7_jam_66 : decode cX7_jam 66 = .ok (.ireturn, 1) := by decide +kernel
theorem dX7_jam_67 : decode cX7_jam 67 = .ok (.aload_n 0, 1) := by decide +kernel
theorem dX7_jam_68 : decode cX7_jam 68 = .ok (.getfield 41, 3) := by decide +kernel
theorem dX7_jam_71 : decode cX7_jam 71 = .ok (.invokestatic 138, 3) := by decide +kernel
theorem dX7_jam_74 : decode cX7_jam 74 = .ok (.pop, 1) := by decide +kernel
theorem dX7_jam_75 : decode cX7_jam 75 = .ok (.iinc 2 1, 3) := by decide +kernel
theorem dX7_jam_78 : decode cX7_jam 78 = .ok (.goto (-43), 3) := by decide +kernel
theorem dX7_jam_81 : decode cX7_jam 81 = .ok (.ldc 166, 2) := by decide +kernel
theorem dX7_jam_83 : decode cX7_jam 83 = .ok (.ireturn, 1) := by decide +kernel
theorem dX7_clear_0 : decode cX7_clear 0 = .ok (.iconst 1, 1) := by decide +kernel
theorem dX7_clear_1 : decode cX7_clear 1 = .ok (.istore_n 3, 1) := by decide +kernel
theorem dX7_clear_2 : decode cX7_clear 2 = .ok (.iconst 0, 1) := by decide +kernel
theorem dX7_clear_3 : decode cX7_clear 3 = .ok (.istore 4, 2) := by decide +kernel
theorem dX7_clear_5 : decode cX7_clear 5 = .ok (.iload 4, 2) := by decide +kernel
theorem dX7_clear_7 : decode cX7_clear 7 = .ok (.iload_n 1, 1) := by decide +kernel
theorem dX7_clear_8 : decode cX7_clear 8 = .ok (.if_icmp .ge 41, 3) := by decide +kernel
theorem dX7_clear_11 : decode cX7_clear 11 = .ok (.aload_n 0, 1) := by decide +kernel
theorem dX7_clear_12 : decode cX7_clear 12 = .ok (.getfield 41, 3) := by decide +kernel
theorem dX7_clear_15 : decode cX7_clear 15 = .ok (.invokestatic 138, 3) := by decide +kernel
theorem dX7_clear_18 : decode cX7_clear 18 = .ok (.pop, 1) := by decide +kernel
theorem dX7_clear_19 : decode cX7_clear 19 = .ok (.iload_n 3, 1) := by decide +kernel
theorem dX7_clear_20 : decode cX7_clear 20 = .ok (.ifCond .eq 21, 3) := by decide +kernel
theorem dX7_clear_23 : decode cX7_clear 23 = .ok (.aload_n 0, 1) := by decide +kernel
theorem dX7_clear_24 : decode cX7_clear 24 = .ok (.getfield 41, 3) := by decide +kernel
theorem dX7_clear_27 : decode cX7_clear 27 = .ok (.invokestatic 142, 3) := by decide +kernel
theorem dX7_clear_30 : decode cX7_clear 30 = .ok (.iload_n 2, 1) := by decide +kernel
theorem dX7_clear_31 : decode cX7_clear 31 = .ok (.iconst (-1), 1) := by decide +kernel
theorem dX7_clear_32 : decode cX7_clear 32 = .ok (.ixor, 1) := by decide +kernel
theorem dX7_clear_33 : decode cX7_clear 33 = .ok (.iand, 1) := by decide +kernel
theorem dX7_clear_34 : decode cX7_clear 34 = .ok (.ifCond .ne 7, 3) := by decide +kernel
theorem dX7_clear_37 : decode cX7_clear 37 = .ok (.iconst 1, 1) := by decide +kernel
theorem dX7_clear_38 : decode cX7_clear 38 = .ok (.goto 4, 3) := by decide +kernel
theorem dX7_clear_41 : decode cX7_clear 41 = .ok (.iconst 0, 1) := by decide +kernel
theorem dX7_clear_42 : decode cX7_clear 42 = .ok (.istore_n 3, 1) := by decide +kernel
theorem dX7_clear_43 : decode cX7_clear 43 = .ok (.iinc 4 1, 3) := by decide +kernel
theorem dX7_clear_46 : decode cX7_clear 46 = .ok (.goto (-41), 3) := by decide +kernel
theorem dX7_clear_49 : decode cX7_clear 49 = .ok (.iload_n 3, 1) := by decide +kernel
theorem dX7_clear_50 : decode cX7_clear 50 = .ok (.ireturn, 1) := by decide +kernel
theorem dX7_waits_0 : decode cX7_waits 0 = .ok (.aload_n 0, 1) := by decide +kernel
theorem dX7_waits_1 : decode cX7_waits 1 = .ok (.iload_n 1, 1) := by decide +kernel
theorem dX7_waits_2 : decode cX7_waits 2 = .ok (.invokevirtual 145, 3) := by decide +kernel
theorem dX7_waits_5 : decode cX7_waits 5 = .ok (.ifCond .ne 6, 3) := by decide +kernel
theorem dX7_waits_8 : decode cX7_waits 8 = .ok (.ldc 62, 2) := by decide +kernel
theorem dX7_waits_10 : decode cX7_waits 10 = .ok (.ireturn, 1) := by decide +kernel
theorem dX7_waits_11 : decode cX7_waits 11 = .ok (.iconst 0, 1) := by decide +kernel
theorem dX7_waits_12 : decode cX7_waits 12 = .ok (.istore_n 2, 1) := by decide +kernel
theorem dX7_waits_13 : decode cX7_waits 13 = .ok (.iload_n 2, 1) := by decide +kernel
theorem dX7_waits_14 : decode cX7_waits 14 = .ok (.bipush 21, 2) := by decide +kernel
theorem dX7_waits_16 : decode cX7_waits 16 = .ok (.if_icmp .ge 54, 3) := by decide +kernel
theorem dX7_waits_19 : decode cX7_waits 19 = .ok (.aload_n 0, 1) := by decide +kernel
theorem dX7_waits_20 : decode cX7_waits 20 = .ok (.iload_n 2, 1) := by decide +kernel
theorem dX7_waits_21 : decode cX7_waits 21 = .ok (.invokevirtual 171, 3) := by decide +kernel
theorem dX7_waits_24 : decode cX7_waits 24 = .ok (.aload_n 0, 1) := by decide +kernel
theorem dX7_waits_25 : decode cX7_waits 25 = .ok (.getfield 41, 3) := by decide +kernel
theorem dX7_waits_28 : decode cX7_waits 28 = .ok (.iload_n 1, 1) := by decide +kernel
theorem dX7_waits_29 : decode cX7_waits 29 = .ok (.invokestatic 148, 3) := by decide +kernel
theorem dX7_waits_32 : decode cX7_waits 32 = .ok (.istore_n 3, 1) := by decide +kernel
theorem dX7_waits_33 : decode cX7_waits 33 = .ok (.iload_n 3, 1) := by decide +kernel
theorem dX7_waits_34 : decode cX7_waits 34 = .ok (.ifCond .eq 30, 3) := by decide +kernel
theorem dX7_waits_37 : decode cX7_waits 37 = .ok (.aload_n 0, 1) := by decide +kernel
theorem dX7_waits_38 : decode cX7_waits 38 = .ok (.getfield 41, 3) := by decide +kernel
theorem dX7_waits_41 : decode cX7_waits 41 = .ok (.iconst 2, 1) := by decide +kernel
theorem dX7_waits_42 : decode cX7_waits 42 = .ok (.iload_n 1, 1) := by decide +kernel
theorem dX7_waits_43 : decode cX7_waits 43 = .ok (.iadd, 1) := by decide +kernel
theorem dX7_waits_44 : decode cX7_waits 44 = .ok (.iconst 0, 1) := by decide +kernel
theorem dX7_waits_45 : decode cX7_waits 45 = .ok (.iastore, 1) := by decide +kernel
theorem dX7_waits_46 : decode cX7_waits 46 = .ok (.aload_n 0, 1) := by decide +kernel
theorem dX7_waits_47 : decode cX7_waits 47 = .ok (.bipush 12, 2) := by decide +kernel
theorem dX7_waits_49 : decode cX7_waits 49 = .ok (.aload_n 0, 1) := by decide +kernel
theorem dX7_waits_50 : decode cX7_waits 50 = .ok (.getfield 41, 3) := by decide +kernel
theorem dX7_waits_53 : decode cX7_waits 53 = .ok (.invokestatic 142, 3) := by decide +kernel
theorem dX7_waits_56 : decode cX7_waits 56 = .ok (.invokevirtual 175, 3) := by decide +kernel
theorem dX7_waits_59 : decode cX7_waits 59 = .ok (.ifCond .eq 5, 3) := by decide +kernel
theorem dX7_waits_62 : decode cX7_waits 62 = .ok (.iload_n 2, 1) := by decide +kernel
theorem dX7_waits_63 : decode cX7_waits 63 = .ok (.ireturn, 1) := by decide +kernel
theorem dX7_waits_64 : decode cX7_waits 64 = .ok (.iinc 2 1, 3) := by decide +kernel
theorem dX7_waits_67 : decode cX7_waits 67 = .ok (.goto (-54), 3) := by decide +kernel
theorem dX7_waits_70 : decode cX7_waits 70 = .ok (.ldc 166, 2) := by decide +kernel
theorem dX7_waits_72 : decode cX7_waits 72 = .ok (.ireturn, 1) := by decide +kernel
theorem dX7_paceBy_0 : decode cX7_paceBy 0 = .ok (.iconst 1, 1) := by decide +kernel
theorem dX7_paceBy_1 : decode cX7_paceBy 1 = .ok (.istore 5, 2) := by decide +kernel
theorem dX7_paceBy_3 : decode cX7_paceBy 3 = .ok (.iload 5, 2) := by decide +kernel
theorem dX7_paceBy_5 : decode cX7_paceBy 5 = .ok (.bipush 13, 2) := by decide +kernel
theorem dX7_paceBy_7 : decode cX7_paceBy 7 = .ok (.if_icmp .ge 151, 3) := by decide +kernel
theorem dX7_paceBy_10 : decode cX7_paceBy 10 = .ok (.aload_n 0, 1) := by decide +kernel
theorem dX7_paceBy_11 : decode cX7_paceBy 11 = .ok (.getfield 25, 3) := by decide +kernel
theorem dX7_paceBy_14 : decode cX7_paceBy 14 = .ok (.aload_n 0, 1) := by decide +kernel
theorem dX7_paceBy_15 : decode cX7_paceBy 15 = .ok (.getfield 41, 3) := by decide +kernel
theorem dX7_paceBy_18 : decode cX7_paceBy 18 = .ok (.invokestatic 167, 3) := by decide +kernel
theorem dX7_paceBy_21 : decode cX7_paceBy 21 = .ok (.iload_n 3, 1) := by decide +kernel
theorem dX7_paceBy_22 : decode cX7_paceBy 22 = .ok (.ifCond .lt 13, 3) := by decide +kernel
theorem dX7_paceBy_25 : decode cX7_paceBy 25 = .ok (.aload_n 0, 1) := by decide +kernel
theorem dX7_paceBy_26 : decode cX7_paceBy 26 = .ok (.getfield 41, 3) := by decide +kernel
theorem dX7_paceBy_29 : decode cX7_paceBy 29 = .ok (.iload_n 3, 1) := by decide +kernel
theorem dX7_paceBy_30 : decode cX7_paceBy 30 = .ok (.iload 4, 2) := by decide +kernel
theorem dX7_paceBy_32 : decode cX7_paceBy 32 = .ok (.invokestatic 162, 3) := by decide +kernel
theorem dX7_paceBy_35 : decode cX7_paceBy 35 = .ok (.aload_n 0, 1) := by decide +kernel
theorem dX7_paceBy_36 : decode cX7_paceBy 36 = .ok (.getfield 41, 3) := by decide +kernel
theorem dX7_paceBy_39 : decode cX7_paceBy 39 = .ok (.invokestatic 142, 3) := by decide +kernel
theorem dX7_paceBy_42 : decode cX7_paceBy 42 = .ok (.istore 6, 2) := by decide +kernel
theorem dX7_paceBy_44 : decode cX7_paceBy 44 = .ok (.iconst 1, 1) := by decide +kernel
theorem dX7_paceBy_45 : decode cX7_paceBy 45 = .ok (.istore 7, 2) := by decide +kernel
theorem dX7_paceBy_47 : decode cX7_paceBy 47 = .ok (.iconst 0, 1) := by decide +kernel
theorem dX7_paceBy_48 : decode cX7_paceBy 48 = .ok (.istore 8, 2) := by decide +kernel
theorem dX7_paceBy_50 : decode cX7_paceBy 50 = .ok (.iload 8, 2) := by decide +kernel
theorem dX7_paceBy_52 : decode cX7_paceBy 52 = .ok (.iload_n 2, 1) := by decide +kernel
theorem dX7_paceBy_53 : decode cX7_paceBy 53 = .ok (.if_icmp .ge 91, 3) := by decide +kernel
theorem dX7_paceBy_56 : decode cX7_paceBy 56 = .ok (.iload 7, 2) := by decide +kernel
theorem dX7_paceBy_58 : decode cX7_paceBy 58 = .ok (.ifCond .eq 86, 3) := by decide +kernel
theorem dX7_paceBy_61 : decode cX7_paceBy 61 = .ok (.aload_n 0, 1) := by decide +kernel
theorem dX7_paceBy_62 : decode cX7_paceBy 62 = .ok (.getfield 16, 3) := by decide +kernel
theorem dX7_paceBy_65 : decode cX7_paceBy 65 = .ok (.iload_n 1, 1) := by decide +kernel
theorem dX7_paceBy_66 : decode cX7_paceBy 66 = .ok (.iload 8, 2) := by decide +kernel
theorem dX7_paceBy_68 : decode cX7_paceBy 68 = .ok (.iadd, 1) := by decide +kernel
theorem dX7_paceBy_69 : decode cX7_paceBy 69 = .ok (.iaload, 1) := by decide +kernel
theorem dX7_paceBy_70 : decode cX7_paceBy 70 = .ok (.istore 9, 2) := by decide +kernel
theorem dX7_paceBy_72 : decode cX7_paceBy 72 = .ok (.aload_n 0, 1) := by decide +kernel
theorem dX7_paceBy_73 : decode cX7_paceBy 73 = .ok (.iload 9, 2) := by decide +kernel
theorem dX7_paceBy_75 : decode cX7_paceBy 75 = .ok (.invokevirtual 145, 3) := by decide +kernel
theorem dX7_paceBy_78 : decode cX7_paceBy 78 = .ok (.ifCond .eq 19, 3) := by decide +kernel
theorem dX7_paceBy_81 : decode cX7_paceBy 81 = .ok (.aload_n 0, 1) := by decide +kernel
theorem dX7_paceBy_82 : decode cX7_paceBy 82 = .ok (.getfield 41, 3) := by decide +kernel
theorem dX7_paceBy_85 : decode cX7_paceBy 85 = .ok (.iload 9, 2) := by decide +kernel
theorem dX7_paceBy_87 : decode cX7_paceBy 87 = .ok (.invokestatic 148, 3) := by decide +kernel
theorem dX7_paceBy_90 : decode cX7_paceBy 90 = .ok (.ifCond .eq 7, 3) := by decide +kernel
theorem dX7_paceBy_93 : decode cX7_paceBy 93 = .ok (.iconst 1, 1) := by decide +kernel
theorem dX7_paceBy_94 : decode cX7_paceBy 94 = .ok (.goto 4, 3) := by decide +kernel
theorem dX7_paceBy_97 : decode cX7_paceBy 97 = .ok (.iconst 0, 1) := by decide +kernel
theorem dX7_paceBy_98 : decode cX7_paceBy 98 = .ok (.istore 7, 2) := by decide +kernel
theorem dX7_paceBy_100 : decode cX7_paceBy 100 = .ok (.iload 7, 2) := by decide +kernel
theorem dX7_paceBy_102 : decode cX7_paceBy 102 = .ok (.ifCond .eq 36, 3) := by decide +kernel
theorem dX7_paceBy_105 : decode cX7_paceBy 105 = .ok (.aload_n 0, 1) := by decide +kernel
theorem dX7_paceBy_106 : decode cX7_paceBy 106 = .ok (.getfield 41, 3) := by decide +kernel
theorem dX7_paceBy_109 : decode cX7_paceBy 109 = .ok (.iconst 2, 1) := by decide +kernel
theorem dX7_paceBy_110 : decode cX7_paceBy 110 = .ok (.iload 9, 2) := by decide +kernel
theorem dX7_paceBy_112 : decode cX7_paceBy 112 = .ok (.iadd, 1) := by decide +kernel
theorem dX7_paceBy_113 : decode cX7_paceBy 113 = .ok (.iconst 0, 1) := by decide +kernel
theorem dX7_paceBy_114 : decode cX7_paceBy 114 = .ok (.iastore, 1) := by decide +kernel
theorem dX7_paceBy_115 : decode cX7_paceBy 115 = .ok (.aload_n 0, 1) := by decide +kernel
theorem dX7_paceBy_116 : decode cX7_paceBy 116 = .ok (.iload 8, 2) := by decide +kernel
theorem dX7_paceBy_118 : decode cX7_paceBy 118 = .ok (.iconst 1, 1) := by decide +kernel
theorem dX7_paceBy_119 : decode cX7_paceBy 119 = .ok (.iadd, 1) := by decide +kernel
theorem dX7_paceBy_120 : decode cX7_paceBy 120 = .ok (.iload_n 2, 1) := by decide +kernel
theorem dX7_paceBy_121 : decode cX7_paceBy 121 = .ok (.if_icmp .ge 8, 3) := by decide +kernel
theorem dX7_paceBy_124 : decode cX7_paceBy 124 = .ok (.iload 5, 2) := by decide +kernel
theorem dX7_paceBy_126 : decode cX7_paceBy 126 = .ok (.goto 5, 3) := by decide +kernel
theorem dX7_paceBy_129 : decode cX7_paceBy 129 = .ok (.bipush 12, 2) := by decide +kernel
theorem dX7_paceBy_131 : decode cX7_paceBy 131 = .ok (.iload 6, 2) := by decide +kernel
theorem dX7_paceBy_133 : decode cX7_paceBy 133 = .ok (.invokevirtual 175, 3) := by decide +kernel
theorem dX7_paceBy_136 : decode cX7_paceBy 136 = .ok (.istore 7, 2) := by decide +kernel
theorem dX7_paceBy_138 : decode cX7_paceBy 138 = .ok (.iinc 8 1, 3) := by decide +kernel
theorem dX7_paceBy_141 : decode cX7_paceBy 141 = .ok (.goto (-91), 3) := by decide +kernel
theorem dX7_paceBy_144 : decode cX7_paceBy 144 = .ok (.iload 7, 2) := by decide +kernel
theorem dX7_paceBy_146 : decode cX7_paceBy 146 = .ok (.ifCond .eq 6, 3) := by decide +kernel
theorem dX7_paceBy_149 : decode cX7_paceBy 149 = .ok (.iload 5, 2) := by decide +kernel
theorem dX7_paceBy_151 : decode cX7_paceBy 151 = .ok (.ireturn, 1) := by decide +kernel
theorem dX7_paceBy_152 : decode cX7_paceBy 152 = .ok (.iinc 5 1, 3) := by decide +kernel
theorem dX7_paceBy_155 : decode cX7_paceBy 155 = .ok (.goto (-152), 3) := by decide +kernel
theorem dX7_paceBy_158 : decode cX7_paceBy 158 = .ok (.ldc 166, 2) := by decide +kernel
theorem dX7_paceBy_160 : decode cX7_paceBy 160 = .ok (.ireturn, 1) := by decide +kernel
theorem dX7_pace_0 : decode cX7_pace 0 = .ok (.iload_n 1, 1) := by decide +kernel
theorem dX7_pace_1 : decode cX7_pace 1 = .ok (.invokestatic 58, 3) := by decide +kernel
theorem dX7_pace_4 : decode cX7_pace 4 = .ok (.ifCond .eq 13, 3) := by decide +kernel
theorem dX7_pace_7 : decode cX7_pace 7 = .ok (.iload_n 3, 1) := by decide +kernel
theorem dX7_pace_8 : decode cX7_pace 8 = .ok (.iconst 1, 1) := by decide +kernel
theorem dX7_pace_9 : decode cX7_pace 9 = .ok (.bipush 12, 2) := by decide +kernel
theorem dX7_pace_11 : decode cX7_pace 11 = .ok (.invokestatic 47, 3) := by decide +kernel
theorem dX7_pace_14 : decode cX7_pace 14 = .ok (.ifCond .ne 6, 3) := by decide +kernel
theorem dX7_pace_17 : decode cX7_pace 17 = .ok (.ldc 62, 2) := by decide +kernel
theorem dX7_pace_19 : decode cX7_pace 19 = .ok (.ireturn, 1) := by decide +kernel
theorem dX7_pace_20 : decode cX7_pace 20 = .ok (.aload_n 0, 1) := by decide +kernel
theorem dX7_pace_21 : decode cX7_pace 21 = .ok (.invokevirtual 131, 3) := by decide +kernel
theorem dX7_pace_24 : decode cX7_pace 24 = .ok (.ifCond .ne 6, 3) := by decide +kernel
theorem dX7_pace_27 : decode cX7_pace 27 = .ok (.ldc 134, 2) := by decide +kernel
theorem dX7_pace_29 : decode cX7_pace 29 = .ok (.ireturn, 1) := by decide +kernel
theorem dX7_pace_30 : decode cX7_pace 30 = .ok (.aload_n 0, 1) := by decide +kernel
theorem dX7_pace_31 : decode cX7_pace 31 = .ok (.getfield 7, 3) := by decide +kernel
theorem dX7_pace_34 : decode cX7_pace 34 = .ok (.iload_n 1, 1) := by decide +kernel
theorem dX7_pace_35 : decode cX7_pace 35 = .ok (.iaload, 1) := by decide +kernel
theorem dX7_pace_36 : decode cX7_pace 36 = .ok (.ifCond .ge 10, 3) := by decide +kernel
theorem dX7_pace_39 : decode cX7_pace 39 = .ok (.aload_n 0, 1) := by decide +kernel
theorem dX7_pace_40 : decode cX7_pace 40 = .ok (.ldc 52, 2) := by decide +kernel
theorem dX7_pace_42 : decode cX7_pace 42 = .ok (.invokevirtual 64, 3) := by decide +kernel
theorem dX7_pace_45 : decode cX7_pace 45 = .ok (.ireturn, 1) := by decide +kernel
theorem dX7_pace_46 : decode cX7_pace 46 = .ok (.aload_n 0, 1) := by decide +kernel
theorem dX7_pace_47 : decode cX7_pace 47 = .ok (.aload_n 0, 1) := by decide +kernel
theorem dX7_pace_48 : decode cX7_pace 48 = .ok (.iload_n 1, 1) := by decide +kernel
theorem dX7_pace_49 : decode cX7_pace 49 = .ok (.iload_n 2, 1) := by decide +kernel
theorem dX7_pace_50 : decode cX7_pace 50 = .ok (.iload_n 3, 1) := by decide +kernel
theorem dX7_pace_51 : decode cX7_pace 51 = .ok (.invokevirtual 68, 3) := by decide +kernel
theorem dX7_pace_54 : decode cX7_pace 54 = .ok (.ifCond .eq 19, 3) := by decide +kernel
theorem dX7_pace_57 : decode cX7_pace 57 = .ok (.aload_n 0, 1) := by decide +kernel
theorem dX7_pace_58 : decode cX7_pace 58 = .ok (.bipush 40, 2) := by decide +kernel
theorem dX7_pace_60 : decode cX7_pace 60 = .ok (.iload_n 1, 1) := by decide +kernel
theorem dX7_pace_61 : decode cX7_pace 61 = .ok (.imul, 1) := by decide +kernel
theorem dX7_pace_62 : decode cX7_pace 62 = .ok (.iload_n 2, 1) := by decide +kernel
theorem dX7_pace_63 : decode cX7_pace 63 = .ok (.iadd, 1) := by decide +kernel
theorem dX7_pace_64 : decode cX7_pace 64 = .ok (.iload_n 3, 1) := by decide +kernel
theorem dX7_pace_65 : decode cX7_pace 65 = .ok (.iconst (-1), 1) := by decide +kernel
theorem dX7_pace_66 : decode cX7_pace 66 = .ok (.iconst (-1), 1) := by decide +kernel
theorem dX7_pace_67 : decode cX7_pace 67 = .ok (.invokevirtual 178, 3) := by decide +kernel
theorem dX7_pace_70 : decode cX7_pace 70 = .ok (.goto 5, 3) := by decide +kernel
theorem dX7_pace_73 : decode cX7_pace 73 = .ok (.ldc 71, 2) := by decide +kernel
theorem dX7_pace_75 : decode cX7_pace 75 = .ok (.invokevirtual 64, 3) := by decide +kernel
theorem dX7_pace_78 : decode cX7_pace 78 = .ok (.ireturn, 1) := by decide +kernel
theorem dX7_better_0 : decode cX7_better 0 = .ok (.iload_n 1, 1) := by decide +kernel
theorem dX7_better_1 : decode cX7_better 1 = .ok (.invokestatic 58, 3) := by decide +kernel
theorem dX7_better_4 : decode cX7_better 4 = .ok (.ifCond .eq 23, 3) := by decide +kernel
theorem dX7_better_7 : decode cX7_better 7 = .ok (.iload_n 3, 1) := by decide +kernel
theorem dX7_better_8 : decode cX7_better 8 = .ok (.iconst 1, 1) := by decide +kernel
theorem dX7_better_9 : decode cX7_better 9 = .ok (.bipush 12, 2) := by decide +kernel
theorem dX7_better_11 : decode cX7_better 11 = .ok (.invokestatic 47, 3) := by decide +kernel
theorem dX7_better_14 : decode cX7_better 14 = .ok (.ifCond .eq 13, 3) := by decide +kernel
theorem dX7_better_17 : decode cX7_better 17 = .ok (.iload 4, 2) := by decide +kernel
theorem dX7_better_19 : decode cX7_better 19 = .ok (.iconst 0, 1) := by decide +kernel
theorem dX7_better_20 : decode cX7_better 20 = .ok (.iconst 1, 1) := by decide +kernel
theorem dX7_better_21 : decode cX7_better 21 = .ok (.invokestatic 47, 3) := by decide +kernel
theorem dX7_better_24 : decode cX7_better 24 = .ok (.ifCond .ne 6, 3) := by decide +kernel
theorem dX7_better_27 : decode cX7_better 27 = .ok (.ldc 62, 2) := by decide +kernel
theorem dX7_better_29 : decode cX7_better 29 = .ok (.ireturn, 1) := by decide +kernel
theorem dX7_better_30 : decode cX7_better 30 = .ok (.aload_n 0, 1) := by decide +kernel
theorem dX7_better_31 : decode cX7_better 31 = .ok (.invokevirtual 131, 3) := by decide +kernel
theorem dX7_better_34 : decode cX7_better 34 = .ok (.ifCond .ne 6, 3) := by decide +kernel
theorem dX7_better_37 : decode cX7_better 37 = .ok (.ldc 134, 2) := by decide +kernel
theorem dX7_better_39 : decode cX7_better 39 = .ok (.ireturn, 1) := by decide +kernel
theorem dX7_better_40 : decode cX7_better 40 = .ok (.aload_n 0, 1) := by decide +kernel
theorem dX7_better_41 : decode cX7_better 41 = .ok (.getfield 7, 3) := by decide +kernel
theorem dX7_better_44 : decode cX7_better 44 = .ok (.iload_n 1, 1) := by decide +kernel
theorem dX7_better_45 : decode cX7_better 45 = .ok (.iaload, 1) := by decide +kernel
theorem dX7_better_46 : decode cX7_better 46 = .ok (.ifCond .ge 10, 3) := by decide +kernel
theorem dX7_better_49 : decode cX7_better 49 = .ok (.aload_n 0, 1) := by decide +kernel
theorem dX7_better_50 : decode cX7_better 50 = .ok (.ldc 52, 2) := by decide +kernel
theorem dX7_better_52 : decode cX7_better 52 = .ok (.invokevirtual 64, 3) := by decide +kernel
theorem dX7_better_55 : decode cX7_better 55 = .ok (.ireturn, 1) := by decide +kernel
theorem dX7_better_56 : decode cX7_better 56 = .ok (.aload_n 0, 1) := by decide +kernel
theorem dX7_better_57 : decode cX7_better 57 = .ok (.iload_n 1, 1) := by decide +kernel
theorem dX7_better_58 : decode cX7_better 58 = .ok (.iload_n 2, 1) := by decide +kernel
theorem dX7_better_59 : decode cX7_better 59 = .ok (.iload_n 3, 1) := by decide +kernel
theorem dX7_better_60 : decode cX7_better 60 = .ok (.invokevirtual 68, 3) := by decide +kernel
theorem dX7_better_63 : decode cX7_better 63 = .ok (.ifCond .ne 10, 3) := by decide +kernel
theorem dX7_better_66 : decode cX7_better 66 = .ok (.aload_n 0, 1) := by decide +kernel
theorem dX7_better_67 : decode cX7_better 67 = .ok (.ldc 71, 2) := by decide +kernel
theorem dX7_better_69 : decode cX7_better 69 = .ok (.invokevirtual 64, 3) := by decide +kernel
theorem dX7_better_72 : decode cX7_better 72 = .ok (.ireturn, 1) := by decide +kernel
theorem dX7_better_73 : decode cX7_better 73 = .ok (.aload_n 0, 1) := by decide +kernel
theorem dX7_better_74 : decode cX7_better 74 = .ok (.bipush 40, 2) := by decide +kernel
theorem dX7_better_76 : decode cX7_better 76 = .ok (.iload_n 1, 1) := by decide +kernel
theorem dX7_better_77 : decode cX7_better 77 = .ok (.imul, 1) := by decide +kernel
theorem dX7_better_78 : decode cX7_better 78 = .ok (.iload_n 2, 1) := by decide +kernel
theorem dX7_better_79 : decode cX7_better 79 = .ok (.iadd, 1) := by decide +kernel
theorem dX7_better_80 : decode cX7_better 80 = .ok (.iload_n 3, 1) := by decide +kernel
theorem dX7_better_81 : decode cX7_better 81 = .ok (.iconst (-1), 1) := by decide +kernel
theorem dX7_better_82 : decode cX7_better 82 = .ok (.iconst (-1), 1) := by decide +kernel
theorem dX7_better_83 : decode cX7_better 83 = .ok (.invokevirtual 178, 3) := by decide +kernel
theorem dX7_better_86 : decode cX7_better 86 = .ok (.istore 5, 2) := by decide +kernel
theorem dX7_better_88 : decode cX7_better 88 = .ok (.ldc 166, 2) := by decide +kernel
theorem dX7_better_90 : decode cX7_better 90 = .ok (.istore 6, 2) := by decide +kernel
theorem dX7_better_92 : decode cX7_better 92 = .ok (.iconst 0, 1) := by decide +kernel
theorem dX7_better_93 : decode cX7_better 93 = .ok (.istore 7, 2) := by decide +kernel
theorem dX7_better_95 : decode cX7_better 95 = .ok (.iload 7, 2) := by decide +kernel
theorem dX7_better_97 : decode cX7_better 97 = .ok (.aload_n 0, 1) := by decide +kernel
theorem dX7_better_98 : decode cX7_better 98 = .ok (.getfield 25, 3) := by decide +kernel
theorem dX7_better_101 : decode cX7_better 101 = .ok (.bipush 46, 2) := by decide +kernel
theorem dX7_better_103 : decode cX7_better 103 = .ok (.iaload, 1) := by decide +kernel
theorem dX7_better_104 : decode cX7_better 104 = .ok (.if_icmp .ge 85, 3) := by decide +kernel
theorem dX7_better_107 : decode cX7_better 107 = .ok (.iload 7, 2) := by decide +kernel
theorem dX7_better_109 : decode cX7_better 109 = .ok (.iconst 1, 1) := by decide +kernel
theorem dX7_better_110 : decode cX7_better 110 = .ok (.iadd, 1) := by decide +kernel
theorem dX7_better_111 : decode cX7_better 111 = .ok (.istore 8, 2) := by decide +kernel
theorem dX7_better_113 : decode cX7_better 113 = .ok (.iload 8, 2) := by decide +kernel
theorem dX7_better_115 : decode cX7_better 115 = .ok (.aload_n 0, 1) := by decide +kernel
theorem dX7_better_116 : decode cX7_better 116 = .ok (.getfield 25, 3) := by decide +kernel
theorem dX7_better_119 : decode cX7_better 119 = .ok (.bipush 46, 2) := by decide +kernel
theorem dX7_better_121 : decode cX7_better 121 = .ok (.iaload, 1) := by decide +kernel
theorem dX7_better_122 : decode cX7_better 122 = .ok (.if_icmp .ge 61, 3) := by decide +kernel
theorem dX7_better_125 : decode cX7_better 125 = .ok (.aload_n 0, 1) := by decide +kernel
theorem dX7_better_126 : decode cX7_better 126 = .ok (.bipush 40, 2) := by decide +kernel
theorem dX7_better_128 : decode cX7_better 128 = .ok (.iload_n 1, 1) := by decide +kernel
theorem dX7_better_129 : decode cX7_better 129 = .ok (.imul, 1) := by decide +kernel
theorem dX7_better_130 : decode cX7_better 130 = .ok (.iload_n 2, 1) := by decide +kernel
theorem dX7_better_131 : decode cX7_better 131 = .ok (.iadd, 1) := by decide +kernel
theorem dX7_better_132 : decode cX7_better 132 = .ok (.iload_n 3, 1) := by decide +kernel
theorem dX7_better_133 : decode cX7_better 133 = .ok (.iload 7, 2) := by decide +kernel
theorem dX7_better_135 : decode cX7_better 135 = .ok (.iload 8, 2) := by decide +kernel
theorem dX7_better_137 : decode cX7_better 137 = .ok (.invokevirtual 178, 3) := by decide +kernel
theorem dX7_better_140 : decode cX7_better 140 = .ok (.istore 9, 2) := by decide +kernel
theorem dX7_better_142 : decode cX7_better 142 = .ok (.iload 9, 2) := by decide +kernel
theorem dX7_better_144 : decode cX7_better 144 = .ok (.ldc 166, 2) := by decide +kernel
theorem dX7_better_146 : decode cX7_better 146 = .ok (.if_icmp .eq 31, 3) := by decide +kernel
theorem dX7_better_149 : decode cX7_better 149 = .ok (.iload 5, 2) := by decide +kernel
theorem dX7_better_151 : decode cX7_better 151 = .ok (.ldc 166, 2) := by decide +kernel
theorem dX7_better_153 : decode cX7_better 153 = .ok (.if_icmp .eq 10, 3) := by decide +kernel
theorem dX7_better_156 : decode cX7_better 156 = .ok (.iload 9, 2) := by decide +kernel
theorem dX7_better_158 : decode cX7_better 158 = .ok (.iload 5, 2) := by decide +kernel
theorem dX7_better_160 : decode cX7_better 160 = .ok (.if_icmp .ge 17, 3) := by decide +kernel
theorem dX7_better_163 : decode cX7_better 163 = .ok (.bipush 10, 2) := by decide +kernel
theorem dX7_better_165 : decode cX7_better 165 = .ok (.iload 7, 2) := by decide +kernel
theorem dX7_better_167 : decode cX7_better 167 = .ok (.imul, 1) := by decide +kernel
theorem dX7_better_168 : decode cX7_better 168 = .ok (.iload 8, 2) := by decide +kernel
theorem dX7_better_170 : decode cX7_better 170 = .ok (.iadd, 1) := by decide +kernel
theorem dX7_better_171 : decode cX7_better 171 = .ok (.istore 6, 2) := by decide +kernel
theorem dX7_better_173 : decode cX7_better 173 = .ok (.iload 9, 2) := by decide +kernel
theorem dX7_better_175 : decode cX7_better 175 = .ok (.istore 5, 2) := by decide +kernel
theorem dX7_better_177 : decode cX7_better 177 = .ok (.iinc 8 1, 3) := by decide +kernel
theorem dX7_better_180 : decode cX7_better 180 = .ok (.goto (-67), 3) := by decide +kernel
theorem dX7_better_183 : decode cX7_better 183 = .ok (.iinc 7 1, 3) := by decide +kernel
theorem dX7_better_186 : decode cX7_better 186 = .ok (.goto (-91), 3) := by decide +kernel
theorem dX7_better_189 : decode cX7_better 189 = .ok (.aload_n 0, 1) := by decide +kernel
theorem dX7_better_190 : decode cX7_better 190 = .ok (.iload 6, 2) := by decide +kernel
theorem dX7_better_192 : decode cX7_better 192 = .ok (.ldc 166, 2) := by decide +kernel
theorem dX7_better_194 : decode cX7_better 194 = .ok (.if_icmp .eq 8, 3) := by decide +kernel
theorem dX7_better_197 : decode cX7_better 197 = .ok (.iload 4, 2) := by decide +kernel
theorem dX7_better_199 : decode cX7_better 199 = .ok (.ifCond .ne 8, 3) := by decide +kernel
theorem dX7_better_202 : decode cX7_better 202 = .ok (.iload 6, 2) := by decide +kernel
theorem dX7_better_204 : decode cX7_better 204 = .ok (.goto 5, 3) := by decide +kernel
theorem dX7_better_207 : decode cX7_better 207 = .ok (.iload 5, 2) := by decide +kernel
theorem dX7_better_209 : decode cX7_better 209 = .ok (.invokevirtual 64, 3) := by decide +kernel
theorem dX7_better_212 : decode cX7_better 212 = .ok (.ireturn, 1) := by decide +kernel
theorem dX7_isSo_0 : decode cX7_isSo 0 = .ok (.iconst 1, 1) := by decide +kernel
theorem dX7_isSo_1 : decode cX7_isSo 1 = .ok (.istore 4, 2) := by decide +kernel
theorem dX7_isSo_3 : decode cX7_isSo 3 = .ok (.iconst 0, 1) := by decide +kernel
theorem dX7_isSo_4 : decode cX7_isSo 4 = .ok (.istore 5, 2) := by decide +kernel
theorem dX7_isSo_6 : decode cX7_isSo 6 = .ok (.iload 5, 2) := by decide +kernel
theorem dX7_isSo_8 : decode cX7_isSo 8 = .ok (.iload_n 3, 1) := by decide +kernel
theorem dX7_isSo_9 : decode cX7_isSo 9 = .ok (.if_icmp .ge 49, 3) := by decide +kernel
theorem dX7_isSo_12 : decode cX7_isSo 12 = .ok (.aload_n 0, 1) := by decide +kernel
theorem dX7_isSo_13 : decode cX7_isSo 13 = .ok (.getfield 41, 3) := by decide +kernel
theorem dX7_isSo_16 : decode cX7_isSo 16 = .ok (.invokestatic 138, 3) := by decide +kernel
theorem dX7_isSo_19 : decode cX7_isSo 19 = .ok (.pop, 1) := by decide +kernel
theorem dX7_isSo_20 : decode cX7_isSo 20 = .ok (.iload 4, 2) := by decide +kernel
theorem dX7_isSo_22 : decode cX7_isSo 22 = .ok (.ifCond .eq 27, 3) := by decide +kernel
theorem dX7_isSo_25 : decode cX7_isSo 25 = .ok (.aload_n 0, 1) := by decide +kernel
theorem dX7_isSo_26 : decode cX7_isSo 26 = .ok (.getfield 41, 3) := by decide +kernel
theorem dX7_isSo_29 : decode cX7_isSo 29 = .ok (.iload_n 1, 1) := by decide +kernel
theorem dX7_isSo_30 : decode cX7_isSo 30 = .ok (.invokestatic 116, 3) := by decide +kernel
theorem dX7_isSo_33 : decode cX7_isSo 33 = .ok (.aload_n 0, 1) := by decide +kernel
theorem dX7_isSo_34 : decode cX7_isSo 34 = .ok (.getfield 16, 3) := by decide +kernel
theorem dX7_isSo_37 : decode cX7_isSo 37 = .ok (.iload_n 2, 1) := by decide +kernel
theorem dX7_isSo_38 : decode cX7_isSo 38 = .ok (.iload 5, 2) := by decide +kernel
theorem dX7_isSo_40 : decode cX7_isSo 40 = .ok (.iadd, 1) := by decide +kernel
theorem dX7_isSo_41 : decode cX7_isSo 41 = .ok (.iaload, 1) := by decide +kernel
theorem dX7_isSo_42 : decode cX7_isSo 42 = .ok (.if_icmp .ne 7, 3) := by decide +kernel
theorem dX7_isSo_45 : decode cX7_isSo 45 = .ok (.iconst 1, 1) := by decide +kernel
theorem dX7_isSo_46 : decode cX7_isSo 46 = .ok (.goto 4, 3) := by decide +kernel
theorem dX7_isSo_49 : decode cX7_isSo 49 = .ok (.iconst 0, 1) := by decide +kernel
theorem dX7_isSo_50 : decode cX7_isSo 50 = .ok (.istore 4, 2) := by decide +kernel
theorem dX7_isSo_52 : decode cX7_isSo 52 = .ok (.iinc 5 1, 3) := by decide +kernel
theorem dX7_isSo_55 : decode cX7_isSo 55 = .ok (.goto (-49), 3) := by decide +kernel
theorem dX7_isSo_58 : decode cX7_isSo 58 = .ok (.iload 4, 2) := by decide +kernel
theorem dX7_isSo_60 : decode cX7_isSo 60 = .ok (.ireturn, 1) := by decide +kernel
theorem dX7_becomes_0 : decode cX7_becomes 0 = .ok (.iload_n 2, 1) := by decide +kernel
theorem dX7_becomes_1 : decode cX7_becomes 1 = .ok (.ifCond .ne 16, 3) := by decide +kernel
theorem dX7_becomes_4 : decode cX7_becomes 4 = .ok (.aload_n 0, 1) := by decide +kernel
theorem dX7_becomes_5 : decode cX7_becomes 5 = .ok (.getfield 41, 3) := by decide +kernel
theorem dX7_becomes_8 : decode cX7_becomes 8 = .ok (.bipush 55, 2) := by decide +kernel
theorem dX7_becomes_10 : decode cX7_becomes 10 = .ok (.iload_n 1, 1) := by decide +kernel
theorem dX7_becomes_11 : decode cX7_becomes 11 = .ok (.iadd, 1) := by decide +kernel
theorem dX7_becomes_12 : decode cX7_becomes 12 = .ok (.iload_n 3, 1) := by decide +kernel
theorem dX7_becomes_13 : decode cX7_becomes 13 = .ok (.iastore, 1) := by decide +kernel
theorem dX7_becomes_14 : decode cX7_becomes 14 = .ok (.goto 99, 3) := by decide +kernel
theorem dX7_becomes_17 : decode cX7_becomes 17 = .ok (.iload_n 2, 1) := by decide +kernel
theorem dX7_becomes_18 : decode cX7_becomes 18 = .ok (.iconst 1, 1) := by decide +kernel
theorem dX7_becomes_19 : decode cX7_becomes 19 = .ok (.if_icmp .ne 16, 3) := by decide +kernel
theorem dX7_becomes_22 : decode cX7_becomes 22 = .ok (.aload_n 0, 1) := by decide +kernel
theorem dX7_becomes_23 : decode cX7_becomes 23 = .ok (.getfield 41, 3) := by decide +kernel
theorem dX7_becomes_26 : decode cX7_becomes 26 = .ok (.bipush 47, 2) := by decide +kernel
theorem dX7_becomes_28 : decode cX7_becomes 28 = .ok (.iload_n 1, 1) := by decide +kernel
theorem dX7_becomes_29 : decode cX7_becomes 29 = .ok (.iadd, 1) := by decide +kernel
theorem dX7_becomes_30 : decode cX7_becomes 30 = .ok (.iload_n 3, 1) := by decide +kernel
theorem dX7_becomes_31 : decode cX7_becomes 31 = .ok (.iastore, 1) := by decide +kernel
theorem dX7_becomes_32 : decode cX7_becomes 32 = .ok (.goto 81, 3) := by decide +kernel
theorem dX7_becomes_35 : decode cX7_becomes 35 = .ok (.iload_n 2, 1) := by decide +kernel
theorem dX7_becomes_36 : decode cX7_becomes 36 = .ok (.iconst 2, 1) := by decide +kernel
theorem dX7_becomes_37 : decode cX7_becomes 37 = .ok (.if_icmp .ne 25, 3) := by decide +kernel
theorem dX7_becomes_40 : decode cX7_becomes 40 = .ok (.aload_n 0, 1) := by decide +kernel
theorem dX7_becomes_41 : decode cX7_becomes 41 = .ok (.getfield 41, 3) := by decide +kernel
theorem dX7_becomes_44 : decode cX7_becomes 44 = .ok (.iconst 2, 1) := by decide +kernel
theorem dX7_becomes_45 : decode cX7_becomes 45 = .ok (.iload_n 1, 1) := by decide +kernel
theorem dX7_becomes_46 : decode cX7_becomes 46 = .ok (.iadd, 1) := by decide +kernel
theorem dX7_becomes_47 : decode cX7_becomes 47 = .ok (.iload_n 3, 1) := by decide +kernel
theorem dX7_becomes_48 : decode cX7_becomes 48 = .ok (.iastore, 1) := by decide +kernel
theorem dX7_becomes_49 : decode cX7_becomes 49 = .ok (.aload_n 0, 1) := by decide +kernel
theorem dX7_becomes_50 : decode cX7_becomes 50 = .ok (.getfield 41, 3) := by decide +kernel
theorem dX7_becomes_53 : decode cX7_becomes 53 = .ok (.bipush 10, 2) := by decide +kernel
theorem dX7_becomes_55 : decode cX7_becomes 55 = .ok (.iload_n 1, 1) := by decide +kernel
theorem dX7_becomes_56 : decode cX7_becomes 56 = .ok (.iadd, 1) := by decide +kernel
theorem dX7_becomes_57 : decode cX7_becomes 57 = .ok (.iconst 0, 1) := by decide +kernel
theorem dX7_becomes_58 : decode cX7_becomes 58 = .ok (.iastore, 1) := by decide +kernel
theorem dX7_becomes_59 : decode cX7_becomes 59 = .ok (.goto 54, 3) := by decide +kernel
theorem dX7_becomes_62 : decode cX7_becomes 62 = .ok (.iconst 0, 1) := by decide +kernel
theorem dX7_becomes_63 : decode cX7_becomes 63 = .ok (.istore 4, 2) := by decide +kernel
theorem dX7_becomes_65 : decode cX7_becomes 65 = .ok (.iload 4, 2) := by decide +kernel
theorem dX7_becomes_67 : decode cX7_becomes 67 = .ok (.aload_n 0, 1) := by decide +kernel
theorem dX7_becomes_68 : decode cX7_becomes 68 = .ok (.getfield 41, 3) := by decide +kernel
theorem dX7_becomes_71 : decode cX7_becomes 71 = .ok (.bipush 46, 2) := by decide +kernel
theorem dX7_becomes_73 : decode cX7_becomes 73 = .ok (.iaload, 1) := by decide +kernel
theorem dX7_becomes_74 : decode cX7_becomes 74 = .ok (.if_icmp .ge 39, 3) := by decide +kernel
theorem dX7_becomes_77 : decode cX7_becomes 77 = .ok (.aload_n 0, 1) := by decide +kernel
theorem dX7_becomes_78 : decode cX7_becomes 78 = .ok (.getfield 25, 3) := by decide +kernel
theorem dX7_becomes_81 : decode cX7_becomes 81 = .ok (.bipush 18, 2) := by decide +kernel
theorem dX7_becomes_83 : decode cX7_becomes 83 = .ok (.iload 4, 2) := by decide +kernel
theorem dX7_becomes_85 : decode cX7_becomes 85 = .ok (.iadd, 1) := by decide +kernel
theorem dX7_becomes_86 : decode cX7_becomes 86 = .ok (.iaload, 1) := by decide +kernel
theorem dX7_becomes_87 : decode cX7_becomes 87 = .ok (.iload_n 3, 1) := by decide +kernel
theorem dX7_becomes_88 : decode cX7_becomes 88 = .ok (.if_icmp .ne 19, 3) := by decide +kernel
theorem dX7_becomes_91 : decode cX7_becomes 91 = .ok (.iload 4, 2) := by decide +kernel
theorem dX7_becomes_93 : decode cX7_becomes 93 = .ok (.iload_n 1, 1) := by decide +kernel
theorem dX7_becomes_94 : decode cX7_becomes 94 = .ok (.if_icmp .eq 13, 3) := by decide +kernel
theorem dX7_becomes_97 : decode cX7_becomes 97 = .ok (.aload_n 0, 1) := by decide +kernel
theorem dX7_becomes_98 : decode cX7_becomes 98 = .ok (.getfield 41, 3) := by decide +kernel
theorem dX7_becomes_101 : decode cX7_becomes 101 = .ok (.iload_n 1, 1) := by decide +kernel
theorem dX7_becomes_102 : decode cX7_becomes 102 = .ok (.iload 4, 2) := by decide +kernel
theorem dX7_becomes_104 : decode cX7_becomes 104 = .ok (.invokestatic 162, 3) := by decide +kernel
theorem dX7_becomes_107 : decode cX7_becomes 107 = .ok (.iinc 4 1, 3) := by decide +kernel
theorem dX7_becomes_110 : decode cX7_becomes 110 = .ok (.goto (-45), 3) := by decide +kernel
theorem dX7_becomes_113 : decode cX7_becomes 113 = .ok (.return_, 1) := by decide +kernel
theorem dX7_fits_0 : decode cX7_fits 0 = .ok (.aload_n 0, 1) := by decide +kernel
theorem dX7_fits_1 : decode cX7_fits 1 = .ok (.iload_n 1, 1) := by decide +kernel
theorem dX7_fits_2 : decode cX7_fits 2 = .ok (.invokevirtual 145, 3) := by decide +kernel
theorem dX7_fits_5 : decode cX7_fits 5 = .ok (.ifCond .eq 31, 3) := by decide +kernel
theorem dX7_fits_8 : decode cX7_fits 8 = .ok (.iload_n 2, 1) := by decide +kernel
theorem dX7_fits_9 : decode cX7_fits 9 = .ok (.invokestatic 58, 3) := by decide +kernel
theorem dX7_fits_12 : decode cX7_fits 12 = .ok (.ifCond .eq 24, 3) := by decide +kernel
theorem dX7_fits_15 : decode cX7_fits 15 = .ok (.iload 4, 2) := by decide +kernel
theorem dX7_fits_17 : decode cX7_fits 17 = .ok (.iconst 1, 1) := by decide +kernel
theorem dX7_fits_18 : decode cX7_fits 18 = .ok (.bipush 12, 2) := by decide +kernel
theorem dX7_fits_20 : decode cX7_fits 20 = .ok (.invokestatic 47, 3) := by decide +kernel
theorem dX7_fits_23 : decode cX7_fits 23 = .ok (.ifCond .eq 13, 3) := by decide +kernel
theorem dX7_fits_26 : decode cX7_fits 26 = .ok (.iload 5, 2) := by decide +kernel
theorem dX7_fits_28 : decode cX7_fits 28 = .ok (.iconst 0, 1) := by decide +kernel
theorem dX7_fits_29 : decode cX7_fits 29 = .ok (.iconst 3, 1) := by decide +kernel
theorem dX7_fits_30 : decode cX7_fits 30 = .ok (.invokestatic 47, 3) := by decide +kernel
theorem dX7_fits_33 : decode cX7_fits 33 = .ok (.ifCond .ne 6, 3) := by decide +kernel
theorem dX7_fits_36 : decode cX7_fits 36 = .ok (.ldc 62, 2) := by decide +kernel
theorem dX7_fits_38 : decode cX7_fits 38 = .ok (.ireturn, 1) := by decide +kernel
theorem dX7_fits_39 : decode cX7_fits 39 = .ok (.aload_n 0, 1) := by decide +kernel
theorem dX7_fits_40 : decode cX7_fits 40 = .ok (.getfield 7, 3) := by decide +kernel
theorem dX7_fits_43 : decode cX7_fits 43 = .ok (.iload_n 2, 1) := by decide +kernel
theorem dX7_fits_44 : decode cX7_fits 44 = .ok (.iaload, 1) := by decide +kernel
theorem dX7_fits_45 : decode cX7_fits 45 = .ok (.ifCond .ge 10, 3) := by decide +kernel
theorem dX7_fits_48 : decode cX7_fits 48 = .ok (.aload_n 0, 1) := by decide +kernel
theorem dX7_fits_49 : decode cX7_fits 49 = .ok (.ldc 52, 2) := by decide +kernel
theorem dX7_fits_51 : decode cX7_fits 51 = .ok (.invokevirtual 64, 3) := by decide +kernel
theorem dX7_fits_54 : decode cX7_fits 54 = .ok (.ireturn, 1) := by decide +kernel
theorem dX7_fits_55 : decode cX7_fits 55 = .ok (.aload_n 0, 1) := by decide +kernel
theorem dX7_fits_56 : decode cX7_fits 56 = .ok (.iload_n 2, 1) := by decide +kernel
theorem dX7_fits_57 : decode cX7_fits 57 = .ok (.iload_n 3, 1) := by decide +kernel
theorem dX7_fits_58 : decode cX7_fits 58 = .ok (.iload 4, 2) := by decide +kernel
theorem dX7_fits_60 : decode cX7_fits 60 = .ok (.invokevirtual 68, 3) := by decide +kernel
theorem dX7_fits_63 : decode cX7_fits 63 = .ok (.ifCond .ne 10, 3) := by decide +kernel
theorem dX7_fits_66 : decode cX7_fits 66 = .ok (.aload_n 0, 1) := by decide +kernel
theorem dX7_fits_67 : decode cX7_fits 67 = .ok (.ldc 71, 2) := by decide +kernel
theorem dX7_fits_69 : decode cX7_fits 69 = .ok (.invokevirtual 64, 3) := by decide +kernel
theorem dX7_fits_72 : decode cX7_fits 72 = .ok (.ireturn, 1) := by decide +kernel
theorem dX7_fits_73 : decode cX7_fits 73 = .ok (.iconst 0, 1) := by decide +kernel
theorem dX7_fits_74 : decode cX7_fits 74 = .ok (.istore 6, 2) := by decide +kernel
theorem dX7_fits_76 : decode cX7_fits 76 = .ok (.iload 5, 2) := by decide +kernel
theorem dX7_fits_78 : decode cX7_fits 78 = .ok (.ifCond .ne 7, 3) := by decide +kernel
theorem dX7_fits_81 : decode cX7_fits 81 = .ok (.iconst 5, 1) := by decide +kernel
theorem dX7_fits_82 : decode cX7_fits 82 = .ok (.goto 33, 3) := by decide +kernel
theorem dX7_fits_85 : decode cX7_fits 85 = .ok (.iload 5, 2) := by decide +kernel
theorem dX7_fits_87 : decode cX7_fits 87 = .ok (.iconst 1, 1) := by decide +kernel
theorem dX7_fits_88 : decode cX7_fits 88 = .ok (.if_icmp .ne 7, 3) := by decide +kernel
theorem dX7_fits_91 : decode cX7_fits 91 = .ok (.iconst 4, 1) := by decide +kernel
theorem dX7_fits_92 : decode cX7_fits 92 = .ok (.goto 23, 3) := by decide +kernel
theorem dX7_fits_95 : decode cX7_fits 95 = .ok (.iload 5, 2) := by decide +kernel
theorem dX7_fits_97 : decode cX7_fits 97 = .ok (.iconst 2, 1) := by decide +kernel
theorem dX7_fits_98 : decode cX7_fits 98 = .ok (.if_icmp .ne 8, 3) := by decide +kernel
theorem dX7_fits_101 : decode cX7_fits 101 = .ok (.bipush 9, 2) := by decide +kernel
theorem dX7_fits_103 : decode cX7_fits 103 = .ok (.goto 12, 3) := by decide +kernel
theorem dX7_fits_106 : decode cX7_fits 106 = .ok (.aload_n 0, 1) := by decide +kernel
theorem dX7_fits_107 : decode cX7_fits 107 = .ok (.getfield 25, 3) := by decide +kernel
theorem dX7_fits_110 : decode cX7_fits 110 = .ok (.bipush 46, 2) := by decide +kernel
theorem dX7_fits_112 : decode cX7_fits 112 = .ok (.iaload, 1) := by decide +kernel
theorem dX7_fits_113 : decode cX7_fits 113 = .ok (.iconst 1, 1) := by decide +kernel
theorem dX7_fits_114 : decode cX7_fits 114 = .ok (.isub, 1) := by decide +kernel
theorem dX7_fits_115 : decode cX7_fits 115 = .ok (.istore 7, 2) := by decide +kernel
theorem dX7_fits_117 : decode cX7_fits 117 = .ok (.iload 5, 2) := by decide +kernel
theorem dX7_fits_119 : decode cX7_fits 119 = .ok (.iconst 2, 1) := by decide +kernel
theorem dX7_fits_120 : decode cX7_fits 120 = .ok (.if_icmp .ge 7, 3) := by decide +kernel
theorem dX7_fits_123 : decode cX7_fits 123 = .ok (.iconst 1, 1) := by decide +kernel
theorem dX7_fits_124 : decode cX7_fits 124 = .ok (.goto 4, 3) := by decide +kernel
theorem dX7_fits_127 : decode cX7_fits 127 = .ok (.iconst 0, 1) := by decide +kernel
theorem dX7_fits_128 : decode cX7_fits 128 = .ok (.istore 8, 2) := by decide +kernel
theorem dX7_fits_130 : decode cX7_fits 130 = .ok (.iload 8, 2) := by decide +kernel
theorem dX7_fits_132 : decode cX7_fits 132 = .ok (.iload 7, 2) := by decide +kernel
theorem dX7_fits_134 : decode cX7_fits 134 = .ok (.if_icmp .gt 58, 3) := by decide +kernel
theorem dX7_fits_137 : decode cX7_fits 137 = .ok (.aload_n 0, 1) := by decide +kernel
theorem dX7_fits_138 : decode cX7_fits 138 = .ok (.getfield 25, 3) := by decide +kernel
theorem dX7_fits_141 : decode cX7_fits 141 = .ok (.aload_n 0, 1) := by decide +kernel
theorem dX7_fits_142 : decode cX7_fits 142 = .ok (.getfield 41, 3) := by decide +kernel
theorem dX7_fits_145 : decode cX7_fits 145 = .ok (.invokestatic 167, 3) := by decide +kernel
theorem dX7_fits_148 : decode cX7_fits 148 = .ok (.aload_n 0, 1) := by decide +kernel
theorem dX7_fits_149 : decode cX7_fits 149 = .ok (.iload_n 1, 1) := by decide +kernel
theorem dX7_fits_150 : decode cX7_fits 150 = .ok (.iload 5, 2) := by decide +kernel
theorem dX7_fits_152 : decode cX7_fits 152 = .ok (.iload 8, 2) := by decide +kernel
theorem dX7_fits_154 : decode cX7_fits 154 = .ok (.invokevirtual 182, 3) := by decide +kernel
theorem dX7_fits_157 : decode cX7_fits 157 = .ok (.iload 6, 2) := by decide +kernel
theorem dX7_fits_159 : decode cX7_fits 159 = .ok (.aload_n 0, 1) := by decide +kernel
theorem dX7_fits_160 : decode cX7_fits 160 = .ok (.iload_n 1, 1) := by decide +kernel
theorem dX7_fits_161 : decode cX7_fits 161 = .ok (.bipush 40, 2) := by decide +kernel
theorem dX7_fits_163 : decode cX7_fits 163 = .ok (.iload_n 2, 1) := by decide +kernel
theorem dX7_fits_164 : decode cX7_fits 164 = .ok (.imul, 1) := by decide +kernel
theorem dX7_fits_165 : decode cX7_fits 165 = .ok (.iload_n 3, 1) := by decide +kernel
theorem dX7_fits_166 : decode cX7_fits 166 = .ok (.iadd, 1) := by decide +kernel
theorem dX7_fits_167 : decode cX7_fits 167 = .ok (.iload 4, 2) := by decide +kernel
theorem dX7_fits_169 : decode cX7_fits 169 = .ok (.invokevirtual 186, 3) := by decide +kernel
theorem dX7_fits_172 : decode cX7_fits 172 = .ok (.ifCond .eq 10, 3) := by decide +kernel
theorem dX7_fits_175 : decode cX7_fits 175 = .ok (.iconst 1, 1) := by decide +kernel
theorem dX7_fits_176 : decode cX7_fits 176 = .ok (.iload 8, 2) := by decide +kernel
theorem dX7_fits_178 : decode cX7_fits 178 = .ok (.ishl, 1) := by decide +kernel
theorem dX7_fits_179 : decode cX7_fits 179 = .ok (.goto 4, 3) := by decide +kernel
theorem dX7_fits_182 : decode cX7_fits 182 = .ok (.iconst 0, 1) := by decide +kernel
theorem dX7_fits_183 : decode cX7_fits 183 = .ok (.ior, 1) := by decide +kernel
theorem dX7_fits_184 : decode cX7_fits 184 = .ok (.istore 6, 2) := by decide +kernel
theorem dX7_fits_186 : decode cX7_fits 186 = .ok (.iinc 8 1, 3) := by decide +kernel
theorem dX7_fits_189 : decode cX7_fits 189 = .ok (.goto (-59), 3) := by decide +kernel
theorem dX7_fits_192 : decode cX7_fits 192 = .ok (.aload_n 0, 1) := by decide +kernel
theorem dX7_fits_193 : decode cX7_fits 193 = .ok (.iload 6, 2) := by decide +kernel
theorem dX7_fits_195 : decode cX7_fits 195 = .ok (.invokevirtual 64, 3) := by decide +kernel
theorem dX7_fits_198 : decode cX7_fits 198 = .ok (.ireturn, 1) := by decide +kernel
theorem dX7_chance_0 : decode cX7_chance 0 = .ok (.aload_n 0, 1) := by decide +kernel
theorem dX7_chance_1 : decode cX7_chance 1 = .ok (.invokevirtual 131, 3) := by decide +kernel
theorem dX7_chance_4 : decode cX7_chance 4 = .ok (.ifCond .ne 6, 3) := by decide +kernel
theorem dX7_chance_7 : decode cX7_chance 7 = .ok (.ldc 134, 2) := by decide +kernel
theorem dX7_chance_9 : decode cX7_chance 9 = .ok (.ireturn, 1) := by decide +kernel
theorem dX7_chance_10 : decode cX7_chance 10 = .ok (.iload_n 1, 1) := by decide +kernel
theorem dX7_chance_11 : decode cX7_chance 11 = .ok (.iconst 0, 1) := by decide +kernel
theorem dX7_chance_12 : decode cX7_chance 12 = .ok (.bipush 60, 2) := by decide +kernel
theorem dX7_chance_14 : decode cX7_chance 14 = .ok (.invokestatic 47, 3) := by decide +kernel
theorem dX7_chance_17 : decode cX7_chance 17 = .ok (.ifCond .eq 22, 3) := by decide +kernel
theorem dX7_chance_20 : decode cX7_chance 20 = .ok (.iload_n 2, 1) := by decide +kernel
theorem dX7_chance_21 : decode cX7_chance 21 = .ok (.iconst 0, 1) := by decide +kernel
theorem dX7_chance_22 : decode cX7_chance 22 = .ok (.bipush 10, 2) := by decide +kernel
theorem dX7_chance_24 : decode cX7_chance 24 = .ok (.invokestatic 47, 3) := by decide +kernel
theorem dX7_chance_27 : decode cX7_chance 27 = .ok (.ifCond .eq 12, 3) := by decide +kernel
theorem dX7_chance_30 : decode cX7_chance 30 = .ok (.iload_n 3, 1) := by decide +kernel
theorem dX7_chance_31 : decode cX7_chance 31 = .ok (.iconst 0, 1) := by decide +kernel
theorem dX7_chance_32 : decode cX7_chance 32 = .ok (.iconst 1, 1) := by decide +kernel
theorem dX7_chance_33 : decode cX7_chance 33 = .ok (.invokestatic 47, 3) := by decide +kernel
theorem dX7_chance_36 : decode cX7_chance 36 = .ok (.ifCond .ne 6, 3) := by decide +kernel
theorem dX7_chance_39 : decode cX7_chance 39 = .ok (.ldc 62, 2) := by decide +kernel
theorem dX7_chance_41 : decode cX7_chance 41 = .ok (.ireturn, 1) := by decide +kernel
theorem dX7_chance_42 : decode cX7_chance 42 = .ok (.aload_n 0, 1) := by decide +kernel
theorem dX7_chance_43 : decode cX7_chance 43 = .ok (.getfield 25, 3) := by decide +kernel
theorem dX7_chance_46 : decode cX7_chance 46 = .ok (.invokestatic 152, 3) := by decide +kernel
theorem dX7_chance_49 : decode cX7_chance 49 = .ok (.istore 4, 2) := by decide +kernel
theorem dX7_chance_51 : decode cX7_chance 51 = .ok (.iconst 0, 1) := by decide +kernel
theorem dX7_chance_52 : decode cX7_chance 52 = .ok (.istore 5, 2) := by decide +kernel
theorem dX7_chance_54 : decode cX7_chance 54 = .ok (.iconst 1, 1) := by decide +kernel
theorem dX7_chance_55 : decode cX7_chance 55 = .ok (.istore 6, 2) := by decide +kernel
theorem dX7_chance_57 : decode cX7_chance 57 = .ok (.iconst 0, 1) := by decide +kernel
theorem dX7_chance_58 : decode cX7_chance 58 = .ok (.istore 7, 2) := by decide +kernel
theorem dX7_chance_60 : decode cX7_chance 60 = .ok (.iload 7, 2) := by decide +kernel
theorem dX7_chance_62 : decode cX7_chance 62 = .ok (.aload_n 0, 1) := by decide +kernel
theorem dX7_chance_63 : decode cX7_chance 63 = .ok (.getfield 25, 3) := by decide +kernel
theorem dX7_chance_66 : decode cX7_chance 66 = .ok (.bipush 46, 2) := by decide +kernel
theorem dX7_chance_68 : decode cX7_chance 68 = .ok (.iaload, 1) := by decide +kernel
theorem dX7_chance_69 : decode cX7_chance 69 = .ok (.if_icmp .ge 30, 3) := by decide +kernel
theorem dX7_chance_72 : decode cX7_chance 72 = .ok (.iload 6, 2) := by decide +kernel
theorem dX7_chance_74 : decode cX7_chance 74 = .ok (.iload 4, 2) := by decide +kernel
theorem dX7_chance_76 : decode cX7_chance 76 = .ok (.iload 7, 2) := by decide +kernel
theorem dX7_chance_78 : decode cX7_chance 78 = .ok (.invokestatic 123, 3) := by decide +kernel
theorem dX7_chance_81 : decode cX7_chance 81 = .ok (.ifCond .eq 8, 3) := by decide +kernel
theorem dX7_chance_84 : decode cX7_chance 84 = .ok (.bipush 10, 2) := by decide +kernel
theorem dX7_chance_86 : decode cX7_chance 86 = .ok (.goto 4, 3) := by decide +kernel
theorem dX7_chance_89 : decode cX7_chance 89 = .ok (.iconst 1, 1) := by decide +kernel
theorem dX7_chance_90 : decode cX7_chance 90 = .ok (.imul, 1) := by decide +kernel
theorem dX7_chance_91 : decode cX7_chance 91 = .ok (.istore 6, 2) := by decide +kernel
theorem dX7_chance_93 : decode cX7_chance 93 = .ok (.iinc 7 1, 3) := by decide +kernel
theorem dX7_chance_96 : decode cX7_chance 96 = .ok (.goto (-36), 3) := by decide +kernel
theorem dX7_chance_99 : decode cX7_chance 99 = .ok (.iconst 0, 1) := by decide +kernel
theorem dX7_chance_100 : decode cX7_chance 100 = .ok (.istore 7, 2) := by decide +kernel
theorem dX7_chance_102 : decode cX7_chance 102 = .ok (.iload 7, 2) := by decide +kernel
theorem dX7_chance_104 : decode cX7_chance 104 = .ok (.iconst 1, 1) := by decide +kernel
theorem dX7_chance_105 : decode cX7_chance 105 = .ok (.aload_n 0, 1) := by decide +kernel
theorem dX7_chance_106 : decode cX7_chance 106 = .ok (.getfield 25, 3) := by decide +kernel
theorem dX7_chance_109 : decode cX7_chance 109 = .ok (.bipush 46, 2) := by decide +kernel
theorem dX7_chance_111 : decode cX7_chance 111 = .ok (.iaload, 1) := by decide +kernel
theorem dX7_chance_112 : decode cX7_chance 112 = .ok (.ishl, 1) := by decide +kernel
theorem dX7_chance_113 : decode cX7_chance 113 = .ok (.if_icmp .ge 167, 3) := by decide +kernel
theorem dX7_chance_116 : decode cX7_chance 116 = .ok (.iload 7, 2) := by decide +kernel
theorem dX7_chance_118 : decode cX7_chance 118 = .ok (.iload 4, 2) := by decide +kernel
theorem dX7_chance_120 : decode cX7_chance 120 = .ok (.iconst (-1), 1) := by decide +kernel
theorem dX7_chance_121 : decode cX7_chance 121 = .ok (.ixor, 1) := by decide +kernel
theorem dX7_chance_122 : decode cX7_chance 122 = .ok (.iand, 1) := by decide +kernel
theorem dX7_chance_123 : decode cX7_chance 123 = .ok (.ifCond .ne 151, 3) := by decide +kernel
theorem dX7_chance_126 : decode cX7_chance 126 = .ok (.aload_n 0, 1) := by decide +kernel
theorem dX7_chance_127 : decode cX7_chance 127 = .ok (.getfield 25, 3) := by decide +kernel
theorem dX7_chance_130 : decode cX7_chance 130 = .ok (.aload_n 0, 1) := by decide +kernel
theorem dX7_chance_131 : decode cX7_chance 131 = .ok (.getfield 41, 3) := by decide +kernel
theorem dX7_chance_134 : decode cX7_chance 134 = .ok (.invokestatic 167, 3) := by decide +kernel
theorem dX7_chance_137 : decode cX7_chance 137 = .ok (.iconst 1, 1) := by decide +kernel
theorem dX7_chance_138 : decode cX7_chance 138 = .ok (.istore 8, 2) := by decide +kernel
theorem dX7_chance_140 : decode cX7_chance 140 = .ok (.iconst 0, 1) := by decide +kernel
theorem dX7_chance_141 : decode cX7_chance 141 = .ok (.istore 9, 2) := by decide +kernel
theorem dX7_chance_143 : decode cX7_chance 143 = .ok (.iload 9, 2) := by decide +kernel
theorem dX7_chance_145 : decode cX7_chance 145 = .ok (.aload_n 0, 1) := by decide +kernel
theorem dX7_chance_146 : decode cX7_chance 146 = .ok (.getfield 25, 3) := by decide +kernel
theorem dX7_chance_149 : decode cX7_chance 149 = .ok (.bipush 46, 2) := by decide +kernel
theorem dX7_chance_151 : decode cX7_chance 151 = .ok (.iaload, 1) := by decide +kernel
theorem dX7_chance_152 : decode cX7_chance 152 = .ok (.if_icmp .ge 78, 3) := by decide +kernel
theorem dX7_chance_155 : decode cX7_chance 155 = .ok (.iload 8, 2) := by decide +kernel
theorem dX7_chance_157 : decode cX7_chance 157 = .ok (.iload 4, 2) := by decide +kernel
theorem dX7_chance_159 : decode cX7_chance 159 = .ok (.iload 9, 2) := by decide +kernel
theorem dX7_chance_161 : decode cX7_chance 161 = .ok (.invokestatic 123, 3) := by decide +kernel
theorem dX7_chance_164 : decode cX7_chance 164 = .ok (.ifCond .ne 7, 3) := by decide +kernel
theorem dX7_chance_167 : decode cX7_chance 167 = .ok (.iconst 1, 1) := by decide +kernel
theorem dX7_chance_168 : decode cX7_chance 168 = .ok (.goto 21, 3) := by decide +kernel
theorem dX7_chance_171 : decode cX7_chance 171 = .ok (.iload 7, 2) := by decide +kernel
theorem dX7_chance_173 : decode cX7_chance 173 = .ok (.iload 9, 2) := by decide +kernel
theorem dX7_chance_175 : decode cX7_chance 175 = .ok (.invokestatic 123, 3) := by decide +kernel
theorem dX7_chance_178 : decode cX7_chance 178 = .ok (.ifCond .eq 7, 3) := by decide +kernel
theorem dX7_chance_181 : decode cX7_chance 181 = .ok (.iload_n 2, 1) := by decide +kernel
theorem dX7_chance_182 : decode cX7_chance 182 = .ok (.goto 7, 3) := by decide +kernel
theorem dX7_chance_185 : decode cX7_chance 185 = .ok (.bipush 10, 2) := by decide +kernel
theorem dX7_chance_187 : decode cX7_chance 187 = .ok (.iload_n 2, 1) := by decide +kernel
theorem dX7_chance_188 : decode cX7_chance 188 = .ok (.isub, 1) := by decide +kernel
theorem dX7_chance_189 : decode cX7_chance 189 = .ok (.imul, 1) := by decide +kernel
theorem dX7_chance_190 : decode cX7_chance 190 = .ok (.istore 8, 2) := by decide +kernel
theorem dX7_chance_192 : decode cX7_chance 192 = .ok (.aload_n 0, 1) := by decide +kernel
theorem dX7_chance_193 : decode cX7_chance 193 = .ok (.getfield 41, 3) := by decide +kernel
theorem dX7_chance_196 : decode cX7_chance 196 = .ok (.iconst 2, 1) := by decide +kernel
theorem dX7_chance_197 : decode cX7_chance 197 = .ok (.iload 9, 2) := by decide +kernel
theorem dX7_chance_199 : decode cX7_chance 199 = .ok (.iadd, 1) := by decide +kernel
theorem dX7_chance_200 : decode cX7_chance 200 = .ok (.iload 7, 2) := by decide +kernel
theorem dX7_chance_202 : decode cX7_chance 202 = .ok (.iload 9, 2) := by decide +kernel
theorem dX7_chance_204 : decode cX7_chance 204 = .ok (.invokestatic 123, 3) := by decide +kernel
theorem dX7_chance_207 : decode cX7_chance 207 = .ok (.ifCond .eq 7, 3) := by decide +kernel
theorem dX7_chance_210 : decode cX7_chance 210 = .ok (.iconst (-1), 1) := by decide +kernel
theorem dX7_chance_211 : decode cX7_chance 211 = .ok (.goto 12, 3) := by decide +kernel
theorem dX7_chance_214 : decode cX7_chance 214 = .ok (.aload_n 0, 1) := by decide +kernel
theorem dX7_chance_215 : decode cX7_chance 215 = .ok (.getfield 41, 3) := by decide +kernel
theorem dX7_chance_218 : decode cX7_chance 218 = .ok (.iconst 2, 1) := by decide +kernel
theorem dX7_chance_219 : decode cX7_chance 219 = .ok (.iload 9, 2) := by decide +kernel
theorem dX7_chance_221 : decode cX7_chance 221 = .ok (.iadd, 1) := by decide +kernel
theorem dX7_chance_222 : decode cX7_chance 222 = .ok (.iaload, 1) := by decide +kernel
theorem dX7_chance_223 : decode cX7_chance 223 = .ok (.iastore, 1) := by decide +kernel
theorem dX7_chance_224 : decode cX7_chance 224 = .ok (.iinc 9 1, 3) := by decide +kernel
theorem dX7_chance_227 : decode cX7_chance 227 = .ok (.goto (-84), 3) := by decide +kernel
theorem dX7_chance_230 : decode cX7_chance 230 = .ok (.iconst 0, 1) := by decide +kernel
theorem dX7_chance_231 : decode cX7_chance 231 = .ok (.istore 9, 2) := by decide +kernel
theorem dX7_chance_233 : decode cX7_chance 233 = .ok (.iload 9, 2) := by decide +kernel
theorem dX7_chance_235 : decode cX7_chance 235 = .ok (.iload_n 1, 1) := by decide +kernel
theorem dX7_chance_236 : decode cX7_chance 236 = .ok (.if_icmp .ge 17, 3) := by decide +kernel
theorem dX7_chance_239 : decode cX7_chance 239 = .ok (.aload_n 0, 1) := by decide +kernel
theorem dX7_chance_240 : decode cX7_chance 240 = .ok (.getfield 41, 3) := by decide +kernel
theorem dX7_chance_243 : decode cX7_chance 243 = .ok (.invokestatic 138, 3) := by decide +kernel
theorem dX7_chance_246 : decode cX7_chance 246 = .ok (.pop, 1) := by decide +kernel
theorem dX7_chance_247 : decode cX7_chance 247 = .ok (.iinc 9 1, 3) := by decide +kernel
theorem dX7_chance_250 : decode cX7_chance 250 = .ok (.goto (-17), 3) := by decide +kernel
theorem dX7_chance_253 : decode cX7_chance 253 = .ok (.iload 5, 2) := by decide +kernel
theorem dX7_chance_255 : decode cX7_chance 255 = .ok (.aload_n 0, 1) := by decide +kernel
theorem dX7_chance_256 : decode cX7_chance 256 = .ok (.getfield 41, 3) := by decide +kernel
theorem dX7_chance_259 : decode cX7_chance 259 = .ok (.invokestatic 142, 3) := by decide +kernel
theorem dX7_chance_262 : decode cX7_chance 262 = .ok (.ifCond .ne 8, 3) := by decide +kernel
theorem dX7_chance_265 : decode cX7_chance 265 = .ok (.iload 8, 2) := by decide +kernel
theorem dX7_chance_267 : decode cX7_chance 267 = .ok (.goto 4, 3) := by decide +kernel
theorem dX7_chance_270 : decode cX7_chance 270 = .ok (.iconst 0, 1) := by decide +kernel
theorem dX7_chance_271 : decode cX7_chance 271 = .ok (.iadd, 1) := by decide +kernel
theorem dX7_chance_272 : decode cX7_chance 272 = .ok (.istore 5, 2) := by decide +kernel
theorem dX7_chance_274 : decode cX7_chance 274 = .ok (.iinc 7 1, 3) := by decide +kernel
theorem dX7_chance_277 : decode cX7_chance 277 = .ok (.goto (-175), 3) := by decide +kernel
theorem dX7_chance_280 : decode cX7_chance 280 = .ok (.iload 5, 2) := by decide +kernel
theorem dX7_chance_282 : decode cX7_chance 282 = .ok (.istore 7, 2) := by decide +kernel
theorem dX7_chance_284 : decode cX7_chance 284 = .ok (.iload 6, 2) := by decide +kernel
theorem dX7_chance_286 : decode cX7_chance 286 = .ok (.istore 8, 2) := by decide +kernel
theorem dX7_chance_288 : decode cX7_chance 288 = .ok (.iload 8, 2) := by decide +kernel
theorem dX7_chance_290 : decode cX7_chance 290 = .ok (.ifCond .le 21, 3) := by decide +kernel
theorem dX7_chance_293 : decode cX7_chance 293 = .ok (.iload 7, 2) := by decide +kernel
theorem dX7_chance_295 : decode cX7_chance 295 = .ok (.iload 8, 2) := by decide +kernel
theorem dX7_chance_297 : decode cX7_chance 297 = .ok (.irem, 1) := by decide +kernel
theorem dX7_chance_298 : decode cX7_chance 298 = .ok (.istore 9, 2) := by decide +kernel
theorem dX7_chance_300 : decode cX7_chance 300 = .ok (.iload 8, 2) := by decide +kernel
theorem dX7_chance_302 : decode cX7_chance 302 = .ok (.istore 7, 2) := by decide +kernel
theorem dX7_chance_304 : decode cX7_chance 304 = .ok (.iload 9, 2) := by decide +kernel
theorem dX7_chance_306 : decode cX7_chance 306 = .ok (.istore 8, 2) := by decide +kernel
theorem dX7_chance_308 : decode cX7_chance 308 = .ok (.goto (-20), 3) := by decide +kernel
theorem dX7_chance_311 : decode cX7_chance 311 = .ok (.iload_n 3, 1) := by decide +kernel
theorem dX7_chance_312 : decode cX7_chance 312 = .ok (.ifCond .ne 11, 3) := by decide +kernel
theorem dX7_chance_315 : decode cX7_chance 315 = .ok (.iload 5, 2) := by decide +kernel
theorem dX7_chance_317 : decode cX7_chance 317 = .ok (.iload 7, 2) := by decide +kernel
theorem dX7_chance_319 : decode cX7_chance 319 = .ok (.idiv, 1) := by decide +kernel
theorem dX7_chance_320 : decode cX7_chance 320 = .ok (.goto 8, 3) := by decide +kernel
theorem dX7_chance_323 : decode cX7_chance 323 = .ok (.iload 6, 2) := by decide +kernel
theorem dX7_chance_325 : decode cX7_chance 325 = .ok (.iload 7, 2) := by decide +kernel
theorem dX7_chance_327 : decode cX7_chance 327 = .ok (.idiv, 1) := by decide +kernel
theorem dX7_chance_328 : decode cX7_chance 328 = .ok (.ireturn, 1) := by decide +kernel
theorem dX7_drawn_0 : decode cX7_drawn 0 = .ok (.aload_n 0, 1) := by decide +kernel
theorem dX7_drawn_1 : decode cX7_drawn 1 = .ok (.invokevirtual 131, 3) := by decide +kernel
theorem dX7_drawn_4 : decode cX7_drawn 4 = .ok (.ifCond .ne 6, 3) := by decide +kernel
theorem dX7_drawn_7 : decode cX7_drawn 7 = .ok (.ldc 134, 2) := by decide +kernel
theorem dX7_drawn_9 : decode cX7_drawn 9 = .ok (.ireturn, 1) := by decide +kernel
theorem dX7_drawn_10 : decode cX7_drawn 10 = .ok (.iload_n 1, 1) := by decide +kernel
theorem dX7_drawn_11 : decode cX7_drawn 11 = .ok (.iconst 0, 1) := by decide +kernel
theorem dX7_drawn_12 : decode cX7_drawn 12 = .ok (.bipush 60, 2) := by decide +kernel
theorem dX7_drawn_14 : decode cX7_drawn 14 = .ok (.invokestatic 47, 3) := by decide +kernel
theorem dX7_drawn_17 : decode cX7_drawn 17 = .ok (.ifCond .eq 22, 3) := by decide +kernel
theorem dX7_drawn_20 : decode cX7_drawn 20 = .ok (.iload_n 2, 1) := by decide +kernel
theorem dX7_drawn_21 : decode cX7_drawn 21 = .ok (.iconst 1, 1) := by decide +kernel
theorem dX7_drawn_22 : decode cX7_drawn 22 = .ok (.ldc 189, 2) := by decide +kernel
theorem dX7_drawn_24 : decode cX7_drawn 24 = .ok (.invokestatic 47, 3) := by decide +kernel
theorem dX7_drawn_27 : decode cX7_drawn 27 = .ok (.ifCond .eq 12, 3) := by decide +kernel
theorem dX7_drawn_30 : decode cX7_drawn 30 = .ok (.iload_n 3, 1) := by decide +kernel
theorem dX7_drawn_31 : decode cX7_drawn 31 = .ok (.iconst 0, 1) := by decide +kernel
theorem dX7_drawn_32 : decode cX7_drawn 32 = .ok (.iconst 1, 1) := by decide +kernel
theorem dX7_drawn_33 : decode cX7_drawn 33 = .ok (.invokestatic 47, 3) := by decide +kernel
theorem dX7_drawn_36 : decode cX7_drawn 36 = .ok (.ifCond .ne 6, 3) := by decide +kernel
theorem dX7_drawn_39 : decode cX7_drawn 39 = .ok (.ldc 62, 2) := by decide +kernel
theorem dX7_drawn_41 : decode cX7_drawn 41 = .ok (.ireturn, 1) := by decide +kernel
theorem dX7_drawn_42 : decode cX7_drawn 42 = .ok (.aload_n 0, 1) := by decide +kernel
theorem dX7_drawn_43 : decode cX7_drawn 43 = .ok (.getfield 25, 3) := by decide +kernel
theorem dX7_drawn_46 : decode cX7_drawn 46 = .ok (.aload_n 0, 1) := by decide +kernel
theorem dX7_drawn_47 : decode cX7_drawn 47 = .ok (.getfield 41, 3) := by decide +kernel
theorem dX7_drawn_50 : decode cX7_drawn 50 = .ok (.invokestatic 167, 3) := by decide +kernel
theorem dX7_drawn_53 : decode cX7_drawn 53 = .ok (.iload_n 2, 1) := by decide +kernel
theorem dX7_drawn_54 : decode cX7_drawn 54 = .ok (.i2l, 1) := by decide +kernel
theorem dX7_drawn_55 : decode cX7_drawn 55 = .ok (.lstore 4, 2) := by decide +kernel
theorem dX7_drawn_57 : decode cX7_drawn 57 = .ok (.iconst 0, 1) := by decide +kernel
theorem dX7_drawn_58 : decode cX7_drawn 58 = .ok (.istore 6, 2) := by decide +kernel
theorem dX7_drawn_60 : decode cX7_drawn 60 = .ok (.iconst 0, 1) := by decide +kernel
theorem dX7_drawn_61 : decode cX7_drawn 61 = .ok (.istore 7, 2) := by decide +kernel
theorem dX7_drawn_63 : decode cX7_drawn 63 = .ok (.iload 7, 2) := by decide +kernel
theorem dX7_drawn_65 : decode cX7_drawn 65 = .ok (.iload_n 1, 1) := by decide +kernel
theorem dX7_drawn_66 : decode cX7_drawn 66 = .ok (.if_icmp .ge 98, 3) := by decide +kernel
theorem dX7_drawn_69 : decode cX7_drawn 69 = .ok (.lload 4, 2) := by decide +kernel
theorem dX7_drawn_71 : decode cX7_drawn 71 = .ok (.ldc2_w 190, 3) := by decide +kernel
theorem dX7_drawn_74 : decode cX7_drawn 74 = .ok (.lmul, 1) := by decide +kernel
theorem dX7_drawn_75 : decode cX7_drawn 75 = .ok (.ldc2_w 192, 3) := by decide +kernel
theorem dX7_drawn_78 : decode cX7_drawn 78 = .ok (.lrem, 1) := by decide +kernel
theorem dX7_drawn_79 : decode cX7_drawn 79 = .ok (.lstore 4, 2) := by decide +kernel
theorem dX7_drawn_81 : decode cX7_drawn 81 = .ok (.lload 4, 2) := by decide +kernel
theorem dX7_drawn_83 : decode cX7_drawn 83 = .ok (.ldc2_w 194, 3) := by decide +kernel
theorem dX7_drawn_86 : decode cX7_drawn 86 = .ok (.lrem, 1) := by decide +kernel
theorem dX7_drawn_87 : decode cX7_drawn 87 = .ok (.lconst 0, 1) := by decide +kernel
theorem dX7_drawn_88 : decode cX7_drawn 88 = .ok (.lcmp, 1) := by decide +kernel
theorem dX7_drawn_89 : decode cX7_drawn 89 = .ok (.ifCond .ne 10, 3) := by decide +kernel
theorem dX7_drawn_92 : decode cX7_drawn 92 = .ok (.aload_n 0, 1) := by decide +kernel
theorem dX7_drawn_93 : decode cX7_drawn 93 = .ok (.getfield 41, 3) := by decide +kernel
theorem dX7_drawn_96 : decode cX7_drawn 96 = .ok (.invokestatic 158, 3) := by decide +kernel
theorem dX7_drawn_99 : decode cX7_drawn 99 = .ok (.lload 4, 2) := by decide +kernel
theorem dX7_drawn_101 : decode cX7_drawn 101 = .ok (.aload_n 0, 1) := by decide +kernel
theorem dX7_drawn_102 : decode cX7_drawn 102 = .ok (.getfield 41, 3) := by decide +kernel
theorem dX7_drawn_105 : decode cX7_drawn 105 = .ok (.bipush 46, 2) := by decide +kernel
theorem dX7_drawn_107 : decode cX7_drawn 107 = .ok (.iaload, 1) := by decide +kernel
theorem dX7_drawn_108 : decode cX7_drawn 108 = .ok (.i2l, 1) := by decide +kernel
theorem dX7_drawn_109 : decode cX7_drawn 109 = .ok (.lrem, 1) := by decide +kernel
theorem dX7_drawn_110 : decode cX7_drawn 110 = .ok (.l2i, 1) := by decide +kernel
theorem dX7_drawn_111 : decode cX7_drawn 111 = .ok (.istore 8, 2) := by decide +kernel
theorem dX7_drawn_113 : decode cX7_drawn 113 = .ok (.lload 4, 2) := by decide +kernel
theorem dX7_drawn_115 : decode cX7_drawn 115 = .ok (.ldc2_w 196, 3) := by decide +kernel
theorem dX7_drawn_118 : decode cX7_drawn 118 = .ok (.lrem, 1) := by decide +kernel
theorem dX7_drawn_119 : decode cX7_drawn 119 = .ok (.lconst 0, 1) := by decide +kernel
theorem dX7_drawn_120 : decode cX7_drawn 120 = .ok (.lcmp, 1) := by decide +kernel
theorem dX7_drawn_121 : decode cX7_drawn 121 = .ok (.ifCond .ne 25, 3) := by decide +kernel
theorem dX7_drawn_124 : decode cX7_drawn 124 = .ok (.aload_n 0, 1) := by decide +kernel
theorem dX7_drawn_125 : decode cX7_drawn 125 = .ok (.getfield 41, 3) := by decide +kernel
theorem dX7_drawn_128 : decode cX7_drawn 128 = .ok (.iload 8, 2) := by decide +kernel
theorem dX7_drawn_130 : decode cX7_drawn 130 = .ok (.invokestatic 148, 3) := by decide +kernel
theorem dX7_drawn_133 : decode cX7_drawn 133 = .ok (.ifCond .eq 13, 3) := by decide +kernel
theorem dX7_drawn_136 : decode cX7_drawn 136 = .ok (.aload_n 0, 1) := by decide +kernel
theorem dX7_drawn_137 : decode cX7_drawn 137 = .ok (.getfield 41, 3) := by decide +kernel
theorem dX7_drawn_140 : decode cX7_drawn 140 = .ok (.iconst 2, 1) := by decide +kernel
theorem dX7_drawn_141 : decode cX7_drawn 141 = .ok (.iload 8, 2) := by decide +kernel
theorem dX7_drawn_143 : decode cX7_drawn 143 = .ok (.iadd, 1) := by decide +kernel
theorem dX7_drawn_144 : decode cX7_drawn 144 = .ok (.iconst 0, 1) := by decide +kernel
theorem dX7_drawn_145 : decode cX7_drawn 145 = .ok (.iastore, 1) := by decide +kernel
theorem dX7_drawn_146 : decode cX7_drawn 146 = .ok (.iload 6, 2) := by decide +kernel
theorem dX7_drawn_148 : decode cX7_drawn 148 = .ok (.aload_n 0, 1) := by decide +kernel
theorem dX7_drawn_149 : decode cX7_drawn 149 = .ok (.getfield 41, 3) := by decide +kernel
theorem dX7_drawn_152 : decode cX7_drawn 152 = .ok (.invokestatic 138, 3) := by decide +kernel
theorem dX7_drawn_155 : decode cX7_drawn 155 = .ok (.iadd, 1) := by decide +kernel
theorem dX7_drawn_156 : decode cX7_drawn 156 = .ok (.istore 6, 2) := by decide +kernel
theorem dX7_drawn_158 : decode cX7_drawn 158 = .ok (.iinc 7 1, 3) := by decide +kernel
theorem dX7_drawn_161 : decode cX7_drawn 161 = .ok (.goto (-98), 3) := by decide +kernel
theorem dX7_drawn_164 : decode cX7_drawn 164 = .ok (.iload_n 3, 1) := by decide +kernel
theorem dX7_drawn_165 : decode cX7_drawn 165 = .ok (.ifCond .ne 8, 3) := by decide +kernel
theorem dX7_drawn_168 : decode cX7_drawn 168 = .ok (.iload 6, 2) := by decide +kernel
theorem dX7_drawn_170 : decode cX7_drawn 170 = .ok (.goto 13, 3) := by decide +kernel
theorem dX7_drawn_173 : decode cX7_drawn 173 = .ok (.aload_n 0, 1) := by decide +kernel
theorem dX7_drawn_174 : decode cX7_drawn 174 = .ok (.getfield 41, 3) := by decide +kernel
theorem dX7_drawn_177 : decode cX7_drawn 177 = .ok (.invokestatic 142, 3) := by decide +kernel
theorem dX7_drawn_180 : decode cX7_drawn 180 = .ok (.invokestatic 155, 3) := by decide +kernel
theorem dX7_drawn_183 : decode cX7_drawn 183 = .ok (.ireturn, 1) := by decide +kernel
theorem dX7_image_0 : decode cX7_image 0 = .ok (.iload_n 1, 1) := by decide +kernel
theorem dX7_image_1 : decode cX7_image 1 = .ok (.iconst 0, 1) := by decide +kernel
theorem dX7_image_2 : decode cX7_image 2 = .ok (.iconst 1, 1) := by decide +kernel
theorem dX7_image_3 : decode cX7_image 3 = .ok (.invokestatic 47, 3) := by decide +kernel
theorem dX7_image_6 : decode cX7_image 6 = .ok (.ifCond .ne 6, 3) := by decide +kernel
theorem dX7_image_9 : decode cX7_image 9 = .ok (.ldc 62, 2) := by decide +kernel
theorem dX7_image_11 : decode cX7_image 11 = .ok (.ireturn, 1) := by decide +kernel
theorem dX7_image_12 : decode cX7_image 12 = .ok (.aload_n 0, 1) := by decide +kernel
theorem dX7_image_13 : decode cX7_image 13 = .ok (.invokevirtual 131, 3) := by decide +kernel
theorem dX7_image_16 : decode cX7_image 16 = .ok (.ifCond .ne 6, 3) := by decide +kernel
theorem dX7_image_19 : decode cX7_image 19 = .ok (.ldc 134, 2) := by decide +kernel
theorem dX7_image_21 : decode cX7_image 21 = .ok (.ireturn, 1) := by decide +kernel
theorem dX7_image_22 : decode cX7_image 22 = .ok (.iconst 0, 1) := by decide +kernel
theorem dX7_image_23 : decode cX7_image 23 = .ok (.istore_n 2, 1) := by decide +kernel
theorem dX7_image_24 : decode cX7_image 24 = .ok (.iload_n 2, 1) := by decide +kernel
theorem dX7_image_25 : decode cX7_image 25 = .ok (.bipush 63, 2) := by decide +kernel
theorem dX7_image_27 : decode cX7_image 27 = .ok (.if_icmp .ge 26, 3) := by decide +kernel
theorem dX7_image_30 : decode cX7_image 30 = .ok (.aload_n 0, 1) := by decide +kernel
theorem dX7_image_31 : decode cX7_image 31 = .ok (.getfield 31, 3) := by decide +kernel
theorem dX7_image_34 : decode cX7_image 34 = .ok (.bipush 63, 2) := by decide +kernel
theorem dX7_image_36 : decode cX7_image 36 = .ok (.iload_n 1, 1) := by decide +kernel
theorem dX7_image_37 : decode cX7_image 37 = .ok (.imul, 1) := by decide +kernel
theorem dX7_image_38 : decode cX7_image 38 = .ok (.iload_n 2, 1) := by decide +kernel
theorem dX7_image_39 : decode cX7_image 39 = .ok (.iadd, 1) := by decide +kernel
theorem dX7_image_40 : decode cX7_image 40 = .ok (.aload_n 0, 1) := by decide +kernel
theorem dX7_image_41 : decode cX7_image 41 = .ok (.getfield 25, 3) := by decide +kernel
theorem dX7_image_44 : decode cX7_image 44 = .ok (.iload_n 2, 1) := by decide +kernel
theorem dX7_image_45 : decode cX7_image 45 = .ok (.iaload, 1) := by decide +kernel
theorem dX7_image_46 : decode cX7_image 46 = .ok (.iastore, 1) := by decide +kernel
theorem dX7_image_47 : decode cX7_image 47 = .ok (.iinc 2 1, 3) := by decide +kernel
theorem dX7_image_50 : decode cX7_image 50 = .ok (.goto (-26), 3) := by decide +kernel
theorem dX7_image_53 : decode cX7_image 53 = .ok (.aload_n 0, 1) := by decide +kernel
theorem dX7_image_54 : decode cX7_image 54 = .ok (.getfield 34, 3) := by decide +kernel
theorem dX7_image_57 : decode cX7_image 57 = .ok (.iload_n 1, 1) := by decide +kernel
theorem dX7_image_58 : decode cX7_image 58 = .ok (.iconst 1, 1) := by decide +kernel
theorem dX7_image_59 : decode cX7_image 59 = .ok (.bastore, 1) := by decide +kernel
theorem dX7_image_60 : decode cX7_image 60 = .ok (.iconst 1, 1) := by decide +kernel
theorem dX7_image_61 : decode cX7_image 61 = .ok (.ireturn, 1) := by decide +kernel
theorem dX7_restore_0 : decode cX7_restore 0 = .ok (.iload_n 1, 1) := by decide +kernel
theorem dX7_restore_1 : decode cX7_restore 1 = .ok (.iconst 0, 1) := by decide +kernel
theorem dX7_restore_2 : decode cX7_restore 2 = .ok (.iconst 1, 1) := by decide +kernel
theorem dX7_restore_3 : decode cX7_restore 3 = .ok (.invokestatic 47, 3) := by decide +kernel
theorem dX7_restore_6 : decode cX7_restore 6 = .ok (.ifCond .ne 6, 3) := by decide +kernel
theorem dX7_restore_9 : decode cX7_restore 9 = .ok (.ldc 62, 2) := by decide +kernel
theorem dX7_restore_11 : decode cX7_restore 11 = .ok (.ireturn, 1) := by decide +kernel
theorem dX7_restore_12 : decode cX7_restore 12 = .ok (.aload_n 0, 1) := by decide +kernel
theorem dX7_restore_13 : decode cX7_restore 13 = .ok (.getfield 34, 3) := by decide +kernel
theorem dX7_restore_16 : decode cX7_restore 16 = .ok (.iload_n 1, 1) := by decide +kernel
theorem dX7_restore_17 : decode cX7_restore 17 = .ok (.baload, 1) := by decide +kernel
theorem dX7_restore_18 : decode cX7_restore 18 = .ok (.ifCond .ne 6, 3) := by decide +kernel
theorem dX7_restore_21 : decode cX7_restore 21 = .ok (.ldc 134, 2) := by decide +kernel
theorem dX7_restore_23 : decode cX7_restore 23 = .ok (.ireturn, 1) := by decide +kernel
theorem dX7_restore_24 : decode cX7_restore 24 = .ok (.iconst 0, 1) := by decide +kernel
theorem dX7_restore_25 : decode cX7_restore 25 = .ok (.istore_n 2, 1) := by decide +kernel
theorem dX7_restore_26 : decode cX7_restore 26 = .ok (.iload_n 2, 1) := by decide +kernel
theorem dX7_restore_27 : decode cX7_restore 27 = .ok (.bipush 63, 2) := by decide +kernel
theorem dX7_restore_29 : decode cX7_restore 29 = .ok (.if_icmp .ge 26, 3) := by decide +kernel
theorem dX7_restore_32 : decode cX7_restore 32 = .ok (.aload_n 0, 1) := by decide +kernel
theorem dX7_restore_33 : decode cX7_restore 33 = .ok (.getfield 25, 3) := by decide +kernel
theorem dX7_restore_36 : decode cX7_restore 36 = .ok (.iload_n 2, 1) := by decide +kernel
theorem dX7_restore_37 : decode cX7_restore 37 = .ok (.aload_n 0, 1) := by decide +kernel
theorem dX7_restore_38 : decode cX7_restore 38 = .ok (.getfield 31, 3) := by decide +kernel
theorem dX7_restore_41 : decode cX7_restore 41 = .ok (.bipush 63, 2) := by decide +kernel
theorem dX7_restore_43 : decode cX7_restore 43 = .ok (.iload_n 1, 1) := by decide +kernel
theorem dX7_restore_44 : decode cX7_restore 44 = .ok (.imul, 1) := by decide +kernel
theorem dX7_restore_45 : decode cX7_restore 45 = .ok (.iload_n 2, 1) := by decide +kernel
theorem dX7_restore_46 : decode cX7_restore 46 = .ok (.iadd, 1) := by decide +kernel
theorem dX7_restore_47 : decode cX7_restore 47 = .ok (.iaload, 1) := by decide +kernel
theorem dX7_restore_48 : decode cX7_restore 48 = .ok (.iastore, 1) := by decide +kernel
theorem dX7_restore_49 : decode cX7_restore 49 = .ok (.iinc 2 1, 3) := by decide +kernel
theorem dX7_restore_52 : decode cX7_restore 52 = .ok (.goto (-26), 3) := by decide +kernel
theorem dX7_restore_55 : decode cX7_restore 55 = .ok (.aload_n 0, 1) := by decide +kernel
theorem dX7_restore_56 : decode cX7_restore 56 = .ok (.iconst 0, 1) := by decide +kernel
theorem dX7_restore_57 : decode cX7_restore 57 = .ok (.putfield 109, 3) := by decide +kernel
theorem dX7_restore_60 : decode cX7_restore 60 = .ok (.iconst 1, 1) := by decide +kernel
theorem dX7_restore_61 : decode cX7_restore 61 = .ok (.ireturn, 1) := by decide +kernel
theorem dX7_kind_0 : decode cX7_kind 0 = .ok (.aload_n 0, 1) := by decide +kernel
theorem dX7_kind_1 : decode cX7_kind 1 = .ok (.iload_n 1, 1) := by decide +kernel
theorem dX7_kind_2 : decode cX7_kind 2 = .ok (.invokevirtual 145, 3) := by decide +kernel
theorem dX7_kind_5 : decode cX7_kind 5 = .ok (.ifCond .eq 15, 3) := by decide +kernel
theorem dX7_kind_8 : decode cX7_kind 8 = .ok (.aload_n 0, 1) := by decide +kernel
theorem dX7_kind_9 : decode cX7_kind 9 = .ok (.getfield 25, 3) := by decide +kernel
theorem dX7_kind_12 : decode cX7_kind 12 = .ok (.bipush 55, 2) := by decide +kernel
theorem dX7_kind_14 : decode cX7_kind 14 = .ok (.iload_n 1, 1) := by decide +kernel
theorem dX7_kind_15 : decode cX7_kind 15 = .ok (.iadd, 1) := by decide +kernel
theorem dX7_kind_16 : decode cX7_kind 16 = .ok (.iaload, 1) := by decide +kernel
theorem dX7_kind_17 : decode cX7_kind 17 = .ok (.goto 5, 3) := by decide +kernel
theorem dX7_kind_20 : decode cX7_kind 20 = .ok (.ldc 62, 2) := by decide +kernel
theorem dX7_kind_22 : decode cX7_kind 22 = .ok (.ireturn, 1) := by decide +kernel
theorem dX7_as_0 : decode cX7_as 0 = .ok (.aload_n 0, 1) := by decide +kernel
theorem dX7_as_1 : decode cX7_as 1 = .ok (.iload_n 1, 1) := by decide +kernel
theorem dX7_as_2 : decode cX7_as 2 = .ok (.invokevirtual 145, 3) := by decide +kernel
theorem dX7_as_5 : decode cX7_as 5 = .ok (.ifCond .eq 12, 3) := by decide +kernel
theorem dX7_as_8 : decode cX7_as 8 = .ok (.iload_n 2, 1) := by decide +kernel
theorem dX7_as_9 : decode cX7_as 9 = .ok (.iconst 0, 1) := by decide +kernel
theorem dX7_as_10 : decode cX7_as 10 = .ok (.iconst 5, 1) := by decide +kernel
theorem dX7_as_11 : decode cX7_as 11 = .ok (.invokestatic 47, 3) := by decide +kernel
theorem dX7_as_14 : decode cX7_as 14 = .ok (.ifCond .ne 6, 3) := by decide +kernel
theorem dX7_as_17 : decode cX7_as 17 = .ok (.ldc 62, 2) := by decide +kernel
theorem dX7_as_19 : decode cX7_as 19 = .ok (.ireturn, 1) := by decide +kernel
theorem dX7_as_20 : decode cX7_as 20 = .ok (.aload_n 0, 1) := by decide +kernel
theorem dX7_as_21 : decode cX7_as 21 = .ok (.getfield 25, 3) := by decide +kernel
theorem dX7_as_24 : decode cX7_as 24 = .ok (.bipush 55, 2) := by decide +kernel
theorem dX7_as_26 : decode cX7_as 26 = .ok (.iload_n 1, 1) := by decide +kernel
theorem dX7_as_27 : decode cX7_as 27 = .ok (.iadd, 1) := by decide +kernel
theorem dX7_as_28 : decode cX7_as 28 = .ok (.iaload, 1) := by decide +kernel
theorem dX7_as_29 : decode cX7_as 29 = .ok (.istore_n 3, 1) := by decide +kernel
theorem dX7_as_30 : decode cX7_as 30 = .ok (.iload_n 2, 1) := by decide +kernel
theorem dX7_as_31 : decode cX7_as 31 = .ok (.ifCond .eq 28, 3) := by decide +kernel
theorem dX7_as_34 : decode cX7_as 34 = .ok (.iload_n 2, 1) := by decide +kernel
theorem dX7_as_35 : decode cX7_as 35 = .ok (.iload_n 3, 1) := by decide +kernel
theorem dX7_as_36 : decode cX7_as 36 = .ok (.if_icmp .eq 23, 3) := by decide +kernel
theorem dX7_as_39 : decode cX7_as 39 = .ok (.iload_n 2, 1) := by decide +kernel
theorem dX7_as_40 : decode cX7_as 40 = .ok (.iconst 1, 1) := by decide +kernel
theorem dX7_as_41 : decode cX7_as 41 = .ok (.if_icmp .ne 8, 3) := by decide +kernel
theorem dX7_as_44 : decode cX7_as 44 = .ok (.iload_n 3, 1) := by decide +kernel
theorem dX7_as_45 : decode cX7_as 45 = .ok (.iconst 4, 1) := by decide +kernel
theorem dX7_as_46 : decode cX7_as 46 = .ok (.if_icmp .lt 13, 3) := by decide +kernel
theorem dX7_as_49 : decode cX7_as 49 = .ok (.iload_n 2, 1) := by decide +kernel
theorem dX7_as_50 : decode cX7_as 50 = .ok (.iconst 4, 1) := by decide +kernel
theorem dX7_as_51 : decode cX7_as 51 = .ok (.if_icmp .ne 12, 3) := by decide +kernel
theorem dX7_as_54 : decode cX7_as 54 = .ok (.iload_n 3, 1) := by decide +kernel
theorem dX7_as_55 : decode cX7_as 55 = .ok (.iconst 5, 1) := by decide +kernel
theorem dX7_as_56 : decode cX7_as 56 = .ok (.if_icmp .ne 7, 3) := by decide +kernel
theorem dX7_as_59 : decode cX7_as 59 = .ok (.iconst 1, 1) := by decide +kernel
theorem dX7_as_60 : decode cX7_as 60 = .ok (.goto 4, 3) := by decide +kernel
theorem dX7_as_63 : decode cX7_as 63 = .ok (.iconst 0, 1) := by decide +kernel
theorem dX7_as_64 : decode cX7_as 64 = .ok (.istore 4, 2) := by decide +kernel
theorem dX7_as_66 : decode cX7_as 66 = .ok (.aload_n 0, 1) := by decide +kernel
theorem dX7_as_67 : decode cX7_as 67 = .ok (.iload 4, 2) := by decide +kernel
theorem dX7_as_69 : decode cX7_as 69 = .ok (.ifCond .eq 7, 3) := by decide +kernel
theorem dX7_as_72 : decode cX7_as 72 = .ok (.iload_n 1, 1) := by decide +kernel
theorem dX7_as_73 : decode cX7_as 73 = .ok (.goto 5, 3) := by decide +kernel
theorem dX7_as_76 : decode cX7_as 76 = .ok (.ldc 198, 2) := by decide +kernel
theorem dX7_as_78 : decode cX7_as 78 = .ok (.invokevirtual 64, 3) := by decide +kernel
theorem dX7_as_81 : decode cX7_as 81 = .ok (.ireturn, 1) := by decide +kernel
theorem dX7_begins_0 : decode cX7_begins 0 = .ok (.aload_n 0, 1) := by decide +kernel
theorem dX7_begins_1 : decode cX7_begins 1 = .ok (.getfield 199, 3) := by decide +kernel
theorem dX7_begins_4 : decode cX7_begins 4 = .ok (.aload_n 0, 1) := by decide +kernel
theorem dX7_begins_5 : decode cX7_begins 5 = .ok (.getfield 44, 3) := by decide +kernel
theorem dX7_begins_8 : decode cX7_begins 8 = .ok (.arraylength, 1) := by decide +kernel
theorem dX7_begins_9 : decode cX7_begins 9 = .ok (.if_icmp .ge 23, 3) := by decide +kernel
theorem dX7_begins_12 : decode cX7_begins 12 = .ok (.aload_n 0, 1) := by decide +kernel
theorem dX7_begins_13 : decode cX7_begins 13 = .ok (.getfield 44, 3) := by decide +kernel
theorem dX7_begins_16 : decode cX7_begins 16 = .ok (.aload_n 0, 1) := by decide +kernel
theorem dX7_begins_17 : decode cX7_begins 17 = .ok (.getfield 199, 3) := by decide +kernel
theorem dX7_begins_20 : decode cX7_begins 20 = .ok (.iload_n 1, 1) := by decide +kernel
theorem dX7_begins_21 : decode cX7_begins 21 = .ok (.iastore, 1) := by decide +kernel
theorem dX7_begins_22 : decode cX7_begins 22 = .ok (.aload_n 0, 1) := by decide +kernel
theorem dX7_begins_23 : decode cX7_begins 23 = .ok (.dup, 1) := by decide +kernel
theorem dX7_begins_24 : decode cX7_begins 24 = .ok (.getfield 199, 3) := by decide +kernel
theorem dX7_begins_27 : decode cX7_begins 27 = .ok (.iconst 1, 1) := by decide +kernel
theorem dX7_begins_28 : decode cX7_begins 28 = .ok (.iadd, 1) := by decide +kernel
theorem dX7_begins_29 : decode cX7_begins 29 = .ok (.putfield 199, 3) := by decide +kernel
theorem dX7_begins_32 : decode cX7_begins 32 = .ok (.return_, 1) := by decide +kernel
theorem dX7_size_0 : decode cX7_size 0 = .ok (.aload_n 0, 1) := by decide +kernel
theorem dX7_size_1 : decode cX7_size 1 = .ok (.getfield 25, 3) := by decide +kernel
theorem dX7_size_4 : decode cX7_size 4 = .ok (.bipush 55, 2) := by decide +kernel
theorem dX7_size_6 : decode cX7_size 6 = .ok (.iload_n 1, 1) := by decide +kernel
theorem dX7_size_7 : decode cX7_size 7 = .ok (.iadd, 1) := by decide +kernel
theorem dX7_size_8 : decode cX7_size 8 = .ok (.iaload, 1) := by decide +kernel
theorem dX7_size_9 : decode cX7_size 9 = .ok (.istore_n 2, 1) := by decide +kernel
theorem dX7_size_10 : decode cX7_size 10 = .ok (.aload_n 0, 1) := by decide +kernel
theorem dX7_size_11 : decode cX7_size 11 = .ok (.getfield 25, 3) := by decide +kernel
theorem dX7_size_14 : decode cX7_size 14 = .ok (.bipush 47, 2) := by decide +kernel
theorem dX7_size_16 : decode cX7_size 16 = .ok (.iload_n 1, 1) := by decide +kernel
theorem dX7_size_17 : decode cX7_size 17 = .ok (.iadd, 1) := by decide +kernel
theorem dX7_size_18 : decode cX7_size 18 = .ok (.iaload, 1) := by decide +kernel
theorem dX7_size_19 : decode cX7_size 19 = .ok (.istore_n 3, 1) := by decide +kernel
theorem dX7_size_20 : decode cX7_size 20 = .ok (.iload_n 2, 1) := by decide +kernel
theorem dX7_size_21 : decode cX7_size 21 = .ok (.iconst 5, 1) := by decide +kernel
theorem dX7_size_22 : decode cX7_size 22 = .ok (.if_icmp .ne 9, 3) := by decide +kernel
theorem dX7_size_25 : decode cX7_size 25 = .ok (.aload_n 0, 1) := by decide +kernel
theorem dX7_size_26 : decode cX7_size 26 = .ok (.bipush 14, 2) := by decide +kernel
theorem dX7_size_28 : decode cX7_size 28 = .ok (.invokevirtual 202, 3) := by decide +kernel
theorem dX7_size_31 : decode cX7_size 31 = .ok (.iload_n 2, 1) := by decide +kernel
theorem dX7_size_32 : decode cX7_size 32 = .ok (.iconst 4, 1) := by decide +kernel
theorem dX7_size_33 : decode cX7_size 33 = .ok (.if_icmp .lt 34, 3) := by decide +kernel
theorem dX7_size_36 : decode cX7_size 36 = .ok (.aload_n 0, 1) := by decide +kernel
theorem dX7_size_37 : decode cX7_size 37 = .ok (.bipush 13, 2) := by decide +kernel
theorem dX7_size_39 : decode cX7_size 39 = .ok (.invokevirtual 202, 3) := by decide +kernel
theorem dX7_size_42 : decode cX7_size 42 = .ok (.aload_n 0, 1) := by decide +kernel
theorem dX7_size_43 : decode cX7_size 43 = .ok (.bipush 10, 2) := by decide +kernel
theorem dX7_size_45 : decode cX7_size 45 = .ok (.invokevirtual 202, 3) := by decide +kernel
theorem dX7_size_48 : decode cX7_size 48 = .ok (.iload_n 2, 1) := by decide +kernel
theorem dX7_size_49 : decode cX7_size 49 = .ok (.iconst 5, 1) := by decide +kernel
theorem dX7_size_50 : decode cX7_size 50 = .ok (.if_icmp .ne 12, 3) := by decide +kernel
theorem dX7_size_53 : decode cX7_size 53 = .ok (.iconst 2, 1) := by decide +kernel
theorem dX7_size_54 : decode cX7_size 54 = .ok (.iload_n 3, 1) := by decide +kernel
theorem dX7_size_55 : decode cX7_size 55 = .ok (.bipush 100, 2) := by decide +kernel
theorem dX7_size_57 : decode cX7_size 57 = .ok (.isub, 1) := by decide +kernel
theorem dX7_size_58 : decode cX7_size 58 = .ok (.imul, 1) := by decide +kernel
theorem dX7_size_59 : decode cX7_size 59 = .ok (.goto 7, 3) := by decide +kernel
theorem dX7_size_62 : decode cX7_size 62 = .ok (.iload_n 3, 1) := by decide +kernel
theorem dX7_size_63 : decode cX7_size 63 = .ok (.bipush 100, 2) := by decide +kernel
theorem dX7_size_65 : decode cX7_size 65 = .ok (.isub, 1) := by decide +kernel
theorem dX7_size_66 : decode cX7_size 66 = .ok (.ireturn, 1) := by decide +kernel
theorem dX7_size_67 : decode cX7_size 67 = .ok (.iload_n 2, 1) := by decide +kernel
theorem dX7_size_68 : decode cX7_size 68 = .ok (.iconst 2, 1) := by decide +kernel
theorem dX7_size_69 : decode cX7_size 69 = .ok (.if_icmp .ne 9, 3) := by decide +kernel
theorem dX7_size_72 : decode cX7_size 72 = .ok (.aload_n 0, 1) := by decide +kernel
theorem dX7_size_73 : decode cX7_size 73 = .ok (.bipush 12, 2) := by decide +kernel
theorem dX7_size_75 : decode cX7_size 75 = .ok (.invokevirtual 202, 3) := by decide +kernel
theorem dX7_size_78 : decode cX7_size 78 = .ok (.aload_n 0, 1) := by decide +kernel
theorem dX7_size_79 : decode cX7_size 79 = .ok (.bipush 11, 2) := by decide +kernel
theorem dX7_size_81 : decode cX7_size 81 = .ok (.invokevirtual 202, 3) := by decide +kernel
theorem dX7_size_84 : decode cX7_size 84 = .ok (.aload_n 0, 1) := by decide +kernel
theorem dX7_size_85 : decode cX7_size 85 = .ok (.bipush 10, 2) := by decide +kernel
theorem dX7_size_87 : decode cX7_size 87 = .ok (.invokevirtual 202, 3) := by decide +kernel
theorem dX7_size_90 : decode cX7_size 90 = .ok (.iload_n 3, 1) := by decide +kernel
theorem dX7_size_91 : decode cX7_size 91 = .ok (.aload_n 0, 1) := by decide +kernel
theorem dX7_size_92 : decode cX7_size 92 = .ok (.iload_n 1, 1) := by decide +kernel
theorem dX7_size_93 : decode cX7_size 93 = .ok (.invokevirtual 205, 3) := by decide +kernel
theorem dX7_size_96 : decode cX7_size 96 = .ok (.iadd, 1) := by decide +kernel
theorem dX7_size_97 : decode cX7_size 97 = .ok (.istore 4, 2) := by decide +kernel
theorem dX7_size_99 : decode cX7_size 99 = .ok (.iload_n 2, 1) := by decide +kernel
theorem dX7_size_100 : decode cX7_size 100 = .ok (.iconst 2, 1) := by decide +kernel
theorem dX7_size_101 : decode cX7_size 101 = .ok (.if_icmp .ne 9, 3) := by decide +kernel
theorem dX7_size_104 : decode cX7_size 104 = .ok (.iload 4, 2) := by decide +kernel
theorem dX7_size_106 : decode cX7_size 106 = .ok (.ineg, 1) := by decide +kernel
theorem dX7_size_107 : decode cX7_size 107 = .ok (.goto 5, 3) := by decide +kernel
theorem dX7_size_110 : decode cX7_size 110 = .ok (.iload 4, 2) := by decide +kernel
theorem dX7_size_112 : decode cX7_size 112 = .ok (.ireturn, 1) := by decide +kernel
theorem dX7_plain_0 : decode cX7_plain 0 = .ok (.aload_n 0, 1) := by decide +kernel
theorem dX7_plain_1 : decode cX7_plain 1 = .ok (.getfield 25, 3) := by decide +kernel
theorem dX7_plain_4 : decode cX7_plain 4 = .ok (.bipush 55, 2) := by decide +kernel
theorem dX7_plain_6 : decode cX7_plain 6 = .ok (.iload_n 1, 1) := by decide +kernel
theorem dX7_plain_7 : decode cX7_plain 7 = .ok (.iadd, 1) := by decide +kernel
theorem dX7_plain_8 : decode cX7_plain 8 = .ok (.iaload, 1) := by decide +kernel
theorem dX7_plain_9 : decode cX7_plain 9 = .ok (.istore_n 2, 1) := by decide +kernel
theorem dX7_plain_10 : decode cX7_plain 10 = .ok (.iload_n 2, 1) := by decide +kernel
theorem dX7_plain_11 : decode cX7_plain 11 = .ok (.iconst 1, 1) := by decide +kernel
theorem dX7_plain_12 : decode cX7_plain 12 = .ok (.if_icmp .eq 19, 3) := by decide +kernel
theorem dX7_plain_15 : decode cX7_plain 15 = .ok (.aload_n 0, 1) := by decide +kernel
theorem dX7_plain_16 : decode cX7_plain 16 = .ok (.iload_n 2, 1) := by decide +kernel
theorem dX7_plain_17 : decode cX7_plain 17 = .ok (.iconst 2, 1) := by decide +kernel
theorem dX7_plain_18 : decode cX7_plain 18 = .ok (.if_icmp .ne 8, 3) := by decide +kernel
theorem dX7_plain_21 : decode cX7_plain 21 = .ok (.bipush 24, 2) := by decide +kernel
theorem dX7_plain_23 : decode cX7_plain 23 = .ok (.goto 5, 3) := by decide +kernel
theorem dX7_plain_26 : decode cX7_plain 26 = .ok (.bipush 22, 2) := by decide +kernel
theorem dX7_plain_28 : decode cX7_plain 28 = .ok (.invokevirtual 202, 3) := by decide +kernel
theorem dX7_plain_31 : decode cX7_plain 31 = .ok (.aload_n 0, 1) := by decide +kernel
theorem dX7_plain_32 : decode cX7_plain 32 = .ok (.bipush 21, 2) := by decide +kernel
theorem dX7_plain_34 : decode cX7_plain 34 = .ok (.invokevirtual 202, 3) := by decide +kernel
theorem dX7_plain_37 : decode cX7_plain 37 = .ok (.aload_n 0, 1) := by decide +kernel
theorem dX7_plain_38 : decode cX7_plain 38 = .ok (.bipush 20, 2) := by decide +kernel
theorem dX7_plain_40 : decode cX7_plain 40 = .ok (.invokevirtual 202, 3) := by decide +kernel
theorem dX7_plain_43 : decode cX7_plain 43 = .ok (.iload_n 1, 1) := by decide +kernel
theorem dX7_plain_44 : decode cX7_plain 44 = .ok (.aload_n 0, 1) := by decide +kernel
theorem dX7_plain_45 : decode cX7_plain 45 = .ok (.getfield 25, 3) := by decide +kernel
theorem dX7_plain_48 : decode cX7_plain 48 = .ok (.iload_n 1, 1) := by decide +kernel
theorem dX7_plain_49 : decode cX7_plain 49 = .ok (.invokestatic 116, 3) := by decide +kernel
theorem dX7_plain_52 : decode cX7_plain 52 = .ok (.iadd, 1) := by decide +kernel
theorem dX7_plain_53 : decode cX7_plain 53 = .ok (.istore_n 3, 1) := by decide +kernel
theorem dX7_plain_54 : decode cX7_plain 54 = .ok (.iload_n 2, 1) := by decide +kernel
theorem dX7_plain_55 : decode cX7_plain 55 = .ok (.iconst 2, 1) := by decide +kernel
theorem dX7_plain_56 : decode cX7_plain 56 = .ok (.if_icmp .ne 9, 3) := by decide +kernel
theorem dX7_plain_59 : decode cX7_plain 59 = .ok (.iconst 2, 1) := by decide +kernel
theorem dX7_plain_60 : decode cX7_plain 60 = .ok (.iload_n 3, 1) := by decide +kernel
theorem dX7_plain_61 : decode cX7_plain 61 = .ok (.imul, 1) := by decide +kernel
theorem dX7_plain_62 : decode cX7_plain 62 = .ok (.goto 17, 3) := by decide +kernel
theorem dX7_plain_65 : decode cX7_plain 65 = .ok (.iload_n 2, 1) := by decide +kernel
theorem dX7_plain_66 : decode cX7_plain 66 = .ok (.iconst 3, 1) := by decide +kernel
theorem dX7_plain_67 : decode cX7_plain 67 = .ok (.if_icmp .ne 11, 3) := by decide +kernel
theorem dX7_plain_70 : decode cX7_plain 70 = .ok (.iload_n 3, 1) := by decide +kernel
theorem dX7_plain_71 : decode cX7_plain 71 = .ok (.sipush 1000, 3) := by decide +kernel
theorem dX7_plain_74 : decode cX7_plain 74 = .ok (.isub, 1) := by decide +kernel
theorem dX7_plain_75 : decode cX7_plain 75 = .ok (.goto 4, 3) := by decide +kernel
theorem dX7_plain_78 : decode cX7_plain 78 = .ok (.iload_n 3, 1) := by decide +kernel
theorem dX7_plain_79 : decode cX7_plain 79 = .ok (.ireturn, 1) := by decide +kernel
theorem dX7_ask_0 : decode cX7_ask 0 = .ok (.aload_n 0, 1) := by decide +kernel
theorem dX7_ask_1 : decode cX7_ask 1 = .ok (.iload_n 1, 1) := by decide +kernel
theorem dX7_ask_2 : decode cX7_ask 2 = .ok (.invokevirtual 145, 3) := by decide +kernel
theorem dX7_ask_5 : decode cX7_ask 5 = .ok (.ifCond .eq 12, 3) := by decide +kernel
theorem dX7_ask_8 : decode cX7_ask 8 = .ok (.iload_n 2, 1) := by decide +kernel
theorem dX7_ask_9 : decode cX7_ask 9 = .ok (.iconst 0, 1) := by decide +kernel
theorem dX7_ask_10 : decode cX7_ask 10 = .ok (.iconst 1, 1) := by decide +kernel
theorem dX7_ask_11 : decode cX7_ask 11 = .ok (.invokestatic 47, 3) := by decide +kernel
theorem dX7_ask_14 : decode cX7_ask 14 = .ok (.ifCond .ne 6, 3) := by decide +kernel
theorem dX7_ask_17 : decode cX7_ask 17 = .ok (.ldc 62, 2) := by decide +kernel
theorem dX7_ask_19 : decode cX7_ask 19 = .ok (.ireturn, 1) := by decide +kernel
theorem dX7_ask_20 : decode cX7_ask 20 = .ok (.aload_n 0, 1) := by decide +kernel
theorem dX7_ask_21 : decode cX7_ask 21 = .ok (.iconst 0, 1) := by decide +kernel
theorem dX7_ask_22 : decode cX7_ask 22 = .ok (.putfield 199, 3) := by decide +kernel
theorem dX7_ask_25 : decode cX7_ask 25 = .ok (.iload_n 2, 1) := by decide +kernel
theorem dX7_ask_26 : decode cX7_ask 26 = .ok (.ifCond .ne 9, 3) := by decide +kernel
theorem dX7_ask_29 : decode cX7_ask 29 = .ok (.aload_n 0, 1) := by decide +kernel
theorem dX7_ask_30 : decode cX7_ask 30 = .ok (.iload_n 1, 1) := by decide +kernel
theorem dX7_ask_31 : decode cX7_ask 31 = .ok (.invokevirtual 208, 3) := by decide +kernel
theorem dX7_ask_34 : decode cX7_ask 34 = .ok (.ireturn, 1) := by decide +kernel
theorem dX7_ask_35 : decode cX7_ask 35 = .ok (.aload_n 0, 1) := by decide +kernel
theorem dX7_ask_36 : decode cX7_ask 36 = .ok (.getfield 25, 3) := by decide +kernel
theorem dX7_ask_39 : decode cX7_ask 39 = .ok (.bipush 55, 2) := by decide +kernel
theorem dX7_ask_41 : decode cX7_ask 41 = .ok (.iload_n 1, 1) := by decide +kernel
theorem dX7_ask_42 : decode cX7_ask 42 = .ok (.iadd, 1) := by decide +kernel
theorem dX7_ask_43 : decode cX7_ask 43 = .ok (.iaload, 1) := by decide +kernel
theorem dX7_ask_44 : decode cX7_ask 44 = .ok (.iconst 4, 1) := by decide +kernel
theorem dX7_ask_45 : decode cX7_ask 45 = .ok (.if_icmp .ge 9, 3) := by decide +kernel
theorem dX7_ask_48 : decode cX7_ask 48 = .ok (.aload_n 0, 1) := by decide +kernel
theorem dX7_ask_49 : decode cX7_ask 49 = .ok (.iload_n 1, 1) := by decide +kernel
theorem dX7_ask_50 : decode cX7_ask 50 = .ok (.invokevirtual 205, 3) := by decide +kernel
theorem dX7_ask_53 : decode cX7_ask 53 = .ok (.ireturn, 1) := by decide +kernel
theorem dX7_ask_54 : decode cX7_ask 54 = .ok (.aload_n 0, 1) := by decide +kernel
theorem dX7_ask_55 : decode cX7_ask 55 = .ok (.bipush 23, 2) := by decide +kernel
theorem dX7_ask_57 : decode cX7_ask 57 = .ok (.invokevirtual 202, 3) := by decide +kernel
theorem dX7_ask_60 : decode cX7_ask 60 = .ok (.aload_n 0, 1) := by decide +kernel
theorem dX7_ask_61 : decode cX7_ask 61 = .ok (.bipush 20, 2) := by decide +kernel
theorem dX7_ask_63 : decode cX7_ask 63 = .ok (.invokevirtual 202, 3) := by decide +kernel
theorem dX7_ask_66 : decode cX7_ask 66 = .ok (.iload_n 1, 1) := by decide +kernel
theorem dX7_ask_67 : decode cX7_ask 67 = .ok (.aload_n 0, 1) := by decide +kernel
theorem dX7_ask_68 : decode cX7_ask 68 = .ok (.iload_n 1, 1) := by decide +kernel
theorem dX7_ask_69 : decode cX7_ask 69 = .ok (.invokevirtual 208, 3) := by decide +kernel
theorem dX7_ask_72 : decode cX7_ask 72 = .ok (.isub, 1) := by decide +kernel
theorem dX7_ask_73 : decode cX7_ask 73 = .ok (.ireturn, 1) := by decide +kernel
theorem dX7_trace_0 : decode cX7_trace 0 = .ok (.iload_n 1, 1) := by decide +kernel
theorem dX7_trace_1 : decode cX7_trace 1 = .ok (.iconst 0, 1) := by decide +kernel
theorem dX7_trace_2 : decode cX7_trace 2 = .ok (.aload_n 0, 1) := by decide +kernel
theorem dX7_trace_3 : decode cX7_trace 3 = .ok (.getfield 199, 3) := by decide +kernel
theorem dX7_trace_6 : decode cX7_trace 6 = .ok (.iconst 1, 1) := by decide +kernel
theorem dX7_trace_7 : decode cX7_trace 7 = .ok (.isub, 1) := by decide +kernel
theorem dX7_trace_8 : decode cX7_trace 8 = .ok (.invokestatic 47, 3) := by decide +kernel
theorem dX7_trace_11 : decode cX7_trace 11 = .ok (.ifCond .eq 12, 3) := by decide +kernel
theorem dX7_trace_14 : decode cX7_trace 14 = .ok (.aload_n 0, 1) := by decide +kernel
theorem dX7_trace_15 : decode cX7_trace 15 = .ok (.getfield 44, 3) := by decide +kernel
theorem dX7_trace_18 : decode cX7_trace 18 = .ok (.iload_n 1, 1) := by decide +kernel
theorem dX7_trace_19 : decode cX7_trace 19 = .ok (.iaload, 1) := by decide +kernel
theorem dX7_trace_20 : decode cX7_trace 20 = .ok (.goto 5, 3) := by decide +kernel
theorem dX7_trace_23 : decode cX7_trace 23 = .ok (.ldc 166, 2) := by decide +kernel
theorem dX7_trace_25 : decode cX7_trace 25 = .ok (.ireturn, 1) := by decide +kernel
theorem dX7_count_0 : decode cX7_count 0 = .ok (.iconst 0, 1) := by decide +kernel
theorem dX7_count_1 : decode cX7_count 1 = .ok (.istore_n 2, 1) := by decide +kernel
theorem dX7_count_2 : decode cX7_count 2 = .ok (.iload_n 1, 1) := by decide +kernel
theorem dX7_count_3 : decode cX7_count 3 = .ok (.tableswitch 166 0 8 #[49, 82, 90, 97, 104, 112, 120, 156, 161], 49) := by decide +kernel
theorem dX7_count_52 : decode cX7_count 52 = .ok (.iconst 0, 1) := by decide +kernel
theorem dX7_count_53 : decode cX7_count 53 = .ok (.istore_n 3, 1) := by decide +kernel
theorem dX7_count_54 : decode cX7_count 54 = .ok (.iload_n 3, 1) := by decide +kernel
theorem dX7_count_55 : decode cX7_count 55 = .ok (.bipush 8, 2) := by decide +kernel
theorem dX7_count_57 : decode cX7_count 57 = .ok (.if_icmp .ge 26, 3) := by decide +kernel
theorem dX7_count_60 : decode cX7_count 60 = .ok (.iload_n 2, 1) := by decide +kernel
theorem dX7_count_61 : decode cX7_count 61 = .ok (.aload_n 0, 1) := by decide +kernel
theorem dX7_count_62 : decode cX7_count 62 = .ok (.getfield 7, 3) := by decide +kernel
theorem dX7_count_65 : decode cX7_count 65 = .ok (.iload_n 3, 1) := by decide +kernel
theorem dX7_count_66 : decode cX7_count 66 = .ok (.iaload, 1) := by decide +kernel
theorem dX7_count_67 : decode cX7_count 67 = .ok (.ifCond .ge 7, 3) := by decide +kernel
theorem dX7_count_70 : decode cX7_count 70 = .ok (.iconst 0, 1) := by decide +kernel
theorem dX7_count_71 : decode cX7_count 71 = .ok (.goto 4, 3) := by decide +kernel
theorem dX7_count_74 : decode cX7_count 74 = .ok (.iconst 1, 1) := by decide +kernel
theorem dX7_count_75 : decode cX7_count 75 = .ok (.iadd, 1) := by decide +kernel
theorem dX7_count_76 : decode cX7_count 76 = .ok (.istore_n 2, 1) := by decide +kernel
theorem dX7_count_77 : decode cX7_count 77 = .ok (.iinc 3 1, 3) := by decide +kernel
theorem dX7_count_80 : decode cX7_count 80 = .ok (.goto (-26), 3) := by decide +kernel
theorem dX7_count_83 : decode cX7_count 83 = .ok (.iload_n 2, 1) := by decide +kernel
theorem dX7_count_84 : decode cX7_count 84 = .ok (.ireturn, 1) := by decide +kernel
theorem dX7_count_85 : decode cX7_count 85 = .ok (.aload_n 0, 1) := by decide +kernel
theorem dX7_count_86 : decode cX7_count 86 = .ok (.getfield 25, 3) := by decide +kernel
theorem dX7_count_89 : decode cX7_count 89 = .ok (.bipush 46, 2) := by decide +kernel
theorem dX7_count_91 : decode cX7_count 91 = .ok (.iaload, 1) := by decide +kernel
theorem dX7_count_92 : decode cX7_count 92 = .ok (.ireturn, 1) := by decide +kernel
theorem dX7_count_93 : decode cX7_count 93 = .ok (.aload_n 0, 1) := by decide +kernel
theorem dX7_count_94 : decode cX7_count 94 = .ok (.getfield 25, 3) := by decide +kernel
theorem dX7_count_97 : decode cX7_count 97 = .ok (.iconst 0, 1) := by decide +kernel
theorem dX7_count_98 : decode cX7_count 98 = .ok (.iaload, 1) := by decide +kernel
theorem dX7_count_99 : decode cX7_count 99 = .ok (.ireturn, 1) := by decide +kernel
theorem dX7_count_100 : decode cX7_count 100 = .ok (.aload_n 0, 1) := by decide +kernel
theorem dX7_count_101 : decode cX7_count 101 = .ok (.getfield 25, 3) := by decide +kernel
theorem dX7_count_104 : decode cX7_count 104 = .ok (.iconst 1, 1) := by decide +kernel
theorem dX7_count_105 : decode cX7_count 105 = .ok (.iaload, 1) := by decide +kernel
theorem dX7_count_106 : decode cX7_count 106 = .ok (.ireturn, 1) := by decide +kernel
theorem dX7_count_107 : decode cX7_count 107 = .ok (.aload_n 0, 1) := by decide +kernel
theorem dX7_count_108 : decode cX7_count 108 = .ok (.getfield 25, 3) := by decide +kernel
theorem dX7_count_111 : decode cX7_count 111 = .ok (.invokestatic 152, 3) := by decide +kernel
theorem dX7_count_114 : decode cX7_count 114 = .ok (.ireturn, 1) := by decide +kernel
theorem dX7_count_115 : decode cX7_count 115 = .ok (.aload_n 0, 1) := by decide +kernel
theorem dX7_count_116 : decode cX7_count 116 = .ok (.getfield 25, 3) := by decide +kernel
theorem dX7_count_119 : decode cX7_count 119 = .ok (.invokestatic 142, 3) := by decide +kernel
theorem dX7_count_122 : decode cX7_count 122 = .ok (.ireturn, 1) := by decide +kernel
theorem dX7_count_123 : decode cX7_count 123 = .ok (.iconst 0, 1) := by decide +kernel
theorem dX7_count_124 : decode cX7_count 124 = .ok (.istore_n 3, 1) := by decide +kernel
theorem dX7_count_125 : decode cX7_count 125 = .ok (.iload_n 3, 1) := by decide +kernel
theorem dX7_count_126 : decode cX7_count 126 = .ok (.bipush 20, 2) := by decide +kernel
theorem dX7_count_128 : decode cX7_count 128 = .ok (.if_icmp .ge 29, 3) := by decide +kernel
theorem dX7_count_131 : decode cX7_count 131 = .ok (.iload_n 2, 1) := by decide +kernel
theorem dX7_count_132 : decode cX7_count 132 = .ok (.aload_n 0, 1) := by decide +kernel
theorem dX7_count_133 : decode cX7_count 133 = .ok (.getfield 25, 3) := by decide +kernel
theorem dX7_count_136 : decode cX7_count 136 = .ok (.bipush 26, 2) := by decide +kernel
theorem dX7_count_138 : decode cX7_count 138 = .ok (.iload_n 3, 1) := by decide +kernel
theorem dX7_count_139 : decode cX7_count 139 = .ok (.iadd, 1) := by decide +kernel
theorem dX7_count_140 : decode cX7_count 140 = .ok (.iaload, 1) := by decide +kernel
theorem dX7_count_141 : decode cX7_count 141 = .ok (.ifCond .ne 7, 3) := by decide +kernel
theorem dX7_count_144 : decode cX7_count 144 = .ok (.iconst 0, 1) := by decide +kernel
theorem dX7_count_145 : decode cX7_count 145 = .ok (.goto 4, 3) := by decide +kernel
theorem dX7_count_148 : decode cX7_count 148 = .ok (.iconst 1, 1) := by decide +kernel
theorem dX7_count_149 : decode cX7_count 149 = .ok (.iadd, 1) := by decide +kernel
theorem dX7_count_150 : decode cX7_count 150 = .ok (.istore_n 2, 1) := by decide +kernel
theorem dX7_count_151 : decode cX7_count 151 = .ok (.iinc 3 1, 3) := by decide +kernel
theorem dX7_count_154 : decode cX7_count 154 = .ok (.goto (-29), 3) := by decide +kernel
theorem dX7_count_157 : decode cX7_count 157 = .ok (.iload_n 2, 1) := by decide +kernel
theorem dX7_count_158 : decode cX7_count 158 = .ok (.ireturn, 1) := by decide +kernel
theorem dX7_count_159 : decode cX7_count 159 = .ok (.aload_n 0, 1) := by decide +kernel
theorem dX7_count_160 : decode cX7_count 160 = .ok (.getfield 109, 3) := by decide +kernel
theorem dX7_count_163 : decode cX7_count 163 = .ok (.ireturn, 1) := by decide +kernel
theorem dX7_count_164 : decode cX7_count 164 = .ok (.aload_n 0, 1) := by decide +kernel
theorem dX7_count_165 : decode cX7_count 165 = .ok (.getfield 76, 3) := by decide +kernel
theorem dX7_count_168 : decode cX7_count 168 = .ok (.ireturn, 1) := by decide +kernel
theorem dX7_count_169 : decode cX7_count 169 = .ok (.ldc 62, 2) := by decide +kernel
theorem dX7_count_171 : decode cX7_count 171 = .ok (.ireturn, 1) := by decide +kernel
theorem dX7_status_0 : decode cX7_status 0 = .ok (.aload_n 0, 1) := by decide +kernel
theorem dX7_status_1 : decode cX7_status 1 = .ok (.getfield 54, 3) := by decide +kernel
theorem dX7_status_4 : decode cX7_status 4 = .ok (.ireturn, 1) := by decide +kernel
