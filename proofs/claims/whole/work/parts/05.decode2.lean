theorem dX7_init_34 : decode cX7_init 34 = .ok (.putfield 19, 3) := by decide +kernel
theorem dX7_init_37 : decode cX7_init 37 = .ok (.aload_n 0, 1) := by decide +kernel
theorem dX7_init_38 : decode cX7_init 38 = .ok (.sipush 5454, 3) := by decide +kernel
theorem dX7_init_41 : decode cX7_init 41 = .ok (.newarray .int, 2) := by decide +kernel
theorem dX7_init_43 : decode cX7_init 43 = .ok (.putfield 22, 3) := by decide +kernel
theorem dX7_init_46 : decode cX7_init 46 = .ok (.aload_n 0, 1) := by decide +kernel
theorem dX7_init_47 : decode cX7_init 47 = .ok (.bipush 100, 2) := by decide +kernel
theorem dX7_init_49 : decode cX7_init 49 = .ok (.newarray .int, 2) := by decide +kernel
theorem dX7_init_51 : decode cX7_init 51 = .ok (.putfield 25, 3) := by decide +kernel
theorem dX7_init_54 : decode cX7_init 54 = .ok (.aload_n 0, 1) := by decide +kernel
theorem dX7_init_55 : decode cX7_init 55 = .ok (.bipush 100, 2) := by decide +kernel
theorem dX7_init_57 : decode cX7_init 57 = .ok (.newarray .int, 2) := by decide +kernel
theorem dX7_init_59 : decode cX7_init 59 = .ok (.putfield 28, 3) := by decide +kernel
theorem dX7_init_62 : decode cX7_init 62 = .ok (.aload_n 0, 1) := by decide +kernel
theorem dX7_init_63 : decode cX7_init 63 = .ok (.bipush 100, 2) := by decide +kernel
theorem dX7_init_65 : decode cX7_init 65 = .ok (.newarray .int, 2) := by decide +kernel
theorem dX7_init_67 : decode cX7_init 67 = .ok (.putfield 31, 3) := by decide +kernel
theorem dX7_init_70 : decode cX7_init 70 = .ok (.aload_n 0, 1) := by decide +kernel
theorem dX7_init_71 : decode cX7_init 71 = .ok (.bipush 100, 2) := by decide +kernel
theorem dX7_init_73 : decode cX7_init 73 = .ok (.newarray .int, 2) := by decide +kernel
theorem dX7_init_75 : decode cX7_init 75 = .ok (.putfield 34, 3) := by decide +kernel
theorem dX7_init_78 : decode cX7_init 78 = .ok (.aload_n 0, 1) := by decide +kernel
theorem dX7_init_79 : decode cX7_init 79 = .ok (.bipush 100, 2) := by decide +kernel
theorem dX7_init_81 : decode cX7_init 81 = .ok (.newarray .int, 2) := by decide +kernel
theorem dX7_init_83 : decode cX7_init 83 = .ok (.putfield 37, 3) := by decide +kernel
theorem dX7_init_86 : decode cX7_init 86 = .ok (.iconst 0, 1) := by decide +kernel
theorem dX7_init_87 : decode cX7_init 87 = .ok (.istore_n 1, 1) := by decide +kernel
theorem dX7_init_88 : decode cX7_init 88 = .ok (.iload_n 1, 1) := by decide +kernel
theorem dX7_init_89 : decode cX7_init 89 = .ok (.bipush 6, 2) := by decide +kernel
theorem dX7_init_91 : decode cX7_init 91 = .ok (.if_icmp .ge 20, 3) := by decide +kernel
theorem dX7_init_94 : decode cX7_init 94 = .ok (.aload_n 0, 1) := by decide +kernel
theorem dX7_init_95 : decode cX7_init 95 = .ok (.getfield 7, 3) := by decide +kernel
theorem dX7_init_98 : decode cX7_init 98 = .ok (.sipush 155, 3) := by decide +kernel
theorem dX7_init_101 : decode cX7_init 101 = .ok (.iload_n 1, 1) := by decide +kernel
theorem dX7_init_102 : decode cX7_init 102 = .ok (.iadd, 1) := by decide +kernel
theorem dX7_init_103 : decode cX7_init 103 = .ok (.iconst (-1), 1) := by decide +kernel
theorem dX7_init_104 : decode cX7_init 104 = .ok (.iastore, 1) := by decide +kernel
theorem dX7_init_105 : decode cX7_init 105 = .ok (.iinc 1 1, 3) := by decide +kernel
theorem dX7_init_108 : decode cX7_init 108 = .ok (.goto (-20), 3) := by decide +kernel
theorem dX7_init_111 : decode cX7_init 111 = .ok (.return_, 1) := by decide +kernel
theorem dX7_in_0 : decode cX7_in 0 = .ok (.iload_n 0, 1) := by decide +kernel
theorem dX7_in_1 : decode cX7_in 1 = .ok (.iload_n 1, 1) := by decide +kernel
theorem dX7_in_2 : decode cX7_in 2 = .ok (.if_icmp .lt 12, 3) := by decide +kernel
theorem dX7_in_5 : decode cX7_in 5 = .ok (.iload_n 0, 1) := by decide +kernel
theorem dX7_in_6 : decode cX7_in 6 = .ok (.iload_n 2, 1) := by decide +kernel
theorem dX7_in_7 : decode cX7_in 7 = .ok (.if_icmp .gt 7, 3) := by decide +kernel
theorem dX7_in_10 : decode cX7_in 10 = .ok (.iconst 1, 1) := by decide +kernel
theorem dX7_in_11 : decode cX7_in 11 = .ok (.goto 4, 3) := by decide +kernel
theorem dX7_in_14 : decode cX7_in 14 = .ok (.iconst 0, 1) := by decide +kernel
theorem dX7_in_15 : decode cX7_in 15 = .ok (.ireturn, 1) := by decide +kernel
theorem dX7_fail_0 : decode cX7_fail 0 = .ok (.aload_n 0, 1) := by decide +kernel
theorem dX7_fail_1 : decode cX7_fail 1 = .ok (.getfield 19, 3) := by decide +kernel
theorem dX7_fail_4 : decode cX7_fail 4 = .ok (.bipush (-2), 2) := by decide +kernel
theorem dX7_fail_6 : decode cX7_fail 6 = .ok (.iload_n 1, 1) := by decide +kernel
theorem dX7_fail_7 : decode cX7_fail 7 = .ok (.isub, 1) := by decide +kernel
theorem dX7_fail_8 : decode cX7_fail 8 = .ok (.dup2, 1) := by decide +kernel
theorem dX7_fail_9 : decode cX7_fail 9 = .ok (.iaload, 1) := by decide +kernel
theorem dX7_fail_10 : decode cX7_fail 10 = .ok (.iconst 1, 1) := by decide +kernel
theorem dX7_fail_11 : decode cX7_fail 11 = .ok (.iadd, 1) := by decide +kernel
theorem dX7_fail_12 : decode cX7_fail 12 = .ok (.iastore, 1) := by decide +kernel
theorem dX7_fail_13 : decode cX7_fail 13 = .ok (.iload_n 1, 1) := by decide +kernel
theorem dX7_fail_14 : decode cX7_fail 14 = .ok (.ireturn, 1) := by decide +kernel
theorem dX7_save_0 : decode cX7_save 0 = .ok (.aload_n 0, 1) := by decide +kernel
theorem dX7_save_1 : decode cX7_save 1 = .ok (.getfield 40, 3) := by decide +kernel
theorem dX7_save_4 : decode cX7_save 4 = .ok (.iconst 4, 1) := by decide +kernel
theorem dX7_save_5 : decode cX7_save 5 = .ok (.if_icmp .ne 44, 3) := by decide +kernel
theorem dX7_save_8 : decode cX7_save 8 = .ok (.iconst 0, 1) := by decide +kernel
theorem dX7_save_9 : decode cX7_save 9 = .ok (.istore_n 1, 1) := by decide +kernel
theorem dX7_save_10 : decode cX7_save 10 = .ok (.iload_n 1, 1) := by decide +kernel
theorem dX7_save_11 : decode cX7_save 11 = .ok (.sipush 483, 3) := by decide +kernel
theorem dX7_save_14 : decode cX7_save 14 = .ok (.if_icmp .ge 25, 3) := by decide +kernel
theorem dX7_save_17 : decode cX7_save 17 = .ok (.aload_n 0, 1) := by decide +kernel
theorem dX7_save_18 : decode cX7_save 18 = .ok (.getfield 13, 3) := by decide +kernel
theorem dX7_save_21 : decode cX7_save 21 = .ok (.iload_n 1, 1) := by decide +kernel
theorem dX7_save_22 : decode cX7_save 22 = .ok (.aload_n 0, 1) := by decide +kernel
theorem dX7_save_23 : decode cX7_save 23 = .ok (.getfield 13, 3) := by decide +kernel
theorem dX7_save_26 : decode cX7_save 26 = .ok (.iload_n 1, 1) := by decide +kernel
theorem dX7_save_27 : decode cX7_save 27 = .ok (.sipush 161, 3) := by decide +kernel
theorem dX7_save_30 : decode cX7_save 30 = .ok (.iadd, 1) := by decide +kernel
theorem dX7_save_31 : decode cX7_save 31 = .ok (.iaload, 1) := by decide +kernel
theorem dX7_save_32 : decode cX7_save 32 = .ok (.iastore, 1) := by decide +kernel
theorem dX7_save_33 : decode cX7_save 33 = .ok (.iinc 1 1, 3) := by decide +kernel
theorem dX7_save_36 : decode cX7_save 36 = .ok (.goto (-26), 3) := by decide +kernel
theorem dX7_save_39 : decode cX7_save 39 = .ok (.aload_n 0, 1) := by decide +kernel
theorem dX7_save_40 : decode cX7_save 40 = .ok (.dup, 1) := by decide +kernel
theorem dX7_save_41 : decode cX7_save 41 = .ok (.getfield 40, 3) := by decide +kernel
theorem dX7_save_44 : decode cX7_save 44 = .ok (.iconst 1, 1) := by decide +kernel
theorem dX7_save_45 : decode cX7_save 45 = .ok (.isub, 1) := by decide +kernel
theorem dX7_save_46 : decode cX7_save 46 = .ok (.putfield 40, 3) := by decide +kernel
theorem dX7_save_49 : decode cX7_save 49 = .ok (.iconst 0, 1) := by decide +kernel
theorem dX7_save_50 : decode cX7_save 50 = .ok (.istore_n 1, 1) := by decide +kernel
theorem dX7_save_51 : decode cX7_save 51 = .ok (.iload_n 1, 1) := by decide +kernel
theorem dX7_save_52 : decode cX7_save 52 = .ok (.sipush 161, 3) := by decide +kernel
theorem dX7_save_55 : decode cX7_save 55 = .ok (.if_icmp .ge 30, 3) := by decide +kernel
theorem dX7_save_58 : decode cX7_save 58 = .ok (.aload_n 0, 1) := by decide +kernel
theorem dX7_save_59 : decode cX7_save 59 = .ok (.getfield 13, 3) := by decide +kernel
theorem dX7_save_62 : decode cX7_save 62 = .ok (.sipush 161, 3) := by decide +kernel
theorem dX7_save_65 : decode cX7_save 65 = .ok (.aload_n 0, 1) := by decide +kernel
theorem dX7_save_66 : decode cX7_save 66 = .ok (.getfield 40, 3) := by decide +kernel
theorem dX7_save_69 : decode cX7_save 69 = .ok (.imul, 1) := by decide +kernel
theorem dX7_save_70 : decode cX7_save 70 = .ok (.iload_n 1, 1) := by decide +kernel
theorem dX7_save_71 : decode cX7_save 71 = .ok (.iadd, 1) := by decide +kernel
theorem dX7_save_72 : decode cX7_save 72 = .ok (.aload_n 0, 1) := by decide +kernel
theorem dX7_save_73 : decode cX7_save 73 = .ok (.getfield 7, 3) := by decide +kernel
theorem dX7_save_76 : decode cX7_save 76 = .ok (.iload_n 1, 1) := by decide +kernel
theorem dX7_save_77 : decode cX7_save 77 = .ok (.iaload, 1) := by decide +kernel
theorem dX7_save_78 : decode cX7_save 78 = .ok (.iastore, 1) := by decide +kernel
theorem dX7_save_79 : decode cX7_save 79 = .ok (.iinc 1 1, 3) := by decide +kernel
theorem dX7_save_82 : decode cX7_save 82 = .ok (.goto (-31), 3) := by decide +kernel
theorem dX7_save_85 : decode cX7_save 85 = .ok (.aload_n 0, 1) := by decide +kernel
theorem dX7_save_86 : decode cX7_save 86 = .ok (.dup, 1) := by decide +kernel
theorem dX7_save_87 : decode cX7_save 87 = .ok (.getfield 40, 3) := by decide +kernel
theorem dX7_save_90 : decode cX7_save 90 = .ok (.iconst 1, 1) := by decide +kernel
theorem dX7_save_91 : decode cX7_save 91 = .ok (.iadd, 1) := by decide +kernel
theorem dX7_save_92 : decode cX7_save 92 = .ok (.putfield 40, 3) := by decide +kernel
theorem dX7_save_95 : decode cX7_save 95 = .ok (.return_, 1) := by decide +kernel
theorem dX7_isByte_0 : decode cX7_isByte 0 = .ok (.iload_n 0, 1) := by decide +kernel
theorem dX7_isByte_1 : decode cX7_isByte 1 = .ok (.bipush 32, 2) := by decide +kernel
theorem dX7_isByte_3 : decode cX7_isByte 3 = .ok (.bipush 126, 2) := by decide +kernel
theorem dX7_isByte_5 : decode cX7_isByte 5 = .ok (.invokestatic 44, 3) := by decide +kernel
theorem dX7_isByte_8 : decode cX7_isByte 8 = .ok (.ireturn, 1) := by decide +kernel
theorem dX7_isPosition_0 : decode cX7_isPosition 0 = .ok (.iload_n 1, 1) := by decide +kernel
theorem dX7_isPosition_1 : decode cX7_isPosition 1 = .ok (.iconst 0, 1) := by decide +kernel
theorem dX7_isPosition_2 : decode cX7_isPosition 2 = .ok (.aload_n 0, 1) := by decide +kernel
theorem dX7_isPosition_3 : decode cX7_isPosition 3 = .ok (.getfield 7, 3) := by decide +kernel
theorem dX7_isPosition_6 : decode cX7_isPosition 6 = .ok (.iconst 0, 1) := by decide +kernel
theorem dX7_isPosition_7 : decode cX7_isPosition 7 = .ok (.iaload, 1) := by decide +kernel
theorem dX7_isPosition_8 : decode cX7_isPosition 8 = .ok (.iconst 1, 1) := by decide +kernel
theorem dX7_isPosition_9 : decode cX7_isPosition 9 = .ok (.isub, 1) := by decide +kernel
theorem dX7_isPosition_10 : decode cX7_isPosition 10 = .ok (.invokestatic 44, 3) := by decide +kernel
theorem dX7_isPosition_13 : decode cX7_isPosition 13 = .ok (.ireturn, 1) := by decide +kernel
theorem dX7_insert_0 : decode cX7_insert 0 = .ok (.iload_n 1, 1) := by decide +kernel
theorem dX7_insert_1 : decode cX7_insert 1 = .ok (.iconst 0, 1) := by decide +kernel
theorem dX7_insert_2 : decode cX7_insert 2 = .ok (.aload_n 0, 1) := by decide +kernel
theorem dX7_insert_3 : decode cX7_insert 3 = .ok (.getfield 7, 3) := by decide +kernel
theorem dX7_insert_6 : decode cX7_insert 6 = .ok (.iconst 0, 1) := by decide +kernel
theorem dX7_insert_7 : decode cX7_insert 7 = .ok (.iaload, 1) := by decide +kernel
theorem dX7_insert_8 : decode cX7_insert 8 = .ok (.invokestatic 44, 3) := by decide +kernel
theorem dX7_insert_11 : decode cX7_insert 11 = .ok (.ifCond .eq 10, 3) := by decide +kernel
theorem dX7_insert_14 : decode cX7_insert 14 = .ok (.iload_n 2, 1) := by decide +kernel
theorem dX7_insert_15 : decode cX7_insert 15 = .ok (.invokestatic 48, 3) := by decide +kernel
theorem dX7_insert_18 : decode cX7_insert 18 = .ok (.ifCond .ne 10, 3) := by decide +kernel
theorem dX7_insert_21 : decode cX7_insert 21 = .ok (.aload_n 0, 1) := by decide +kernel
theorem dX7_insert_22 : decode cX7_insert 22 = .ok (.bipush (-2), 2) := by decide +kernel
theorem dX7_insert_24 : decode cX7_insert 24 = .ok (.invokevirtual 52, 3) := by decide +kernel
theorem dX7_insert_27 : decode cX7_insert 27 = .ok (.ireturn, 1) := by decide +kernel
theorem dX7_insert_28 : decode cX7_insert 28 = .ok (.aload_n 0, 1) := by decide +kernel
theorem dX7_insert_29 : decode cX7_insert 29 = .ok (.getfield 7, 3) := by decide +kernel
theorem dX7_insert_32 : decode cX7_insert 32 = .ok (.iconst 0, 1) := by decide +kernel
theorem dX7_insert_33 : decode cX7_insert 33 = .ok (.iaload, 1) := by decide +kernel
theorem dX7_insert_34 : decode cX7_insert 34 = .ok (.bipush 100, 2) := by decide +kernel
theorem dX7_insert_36 : decode cX7_insert 36 = .ok (.if_icmp .ne 10, 3) := by decide +kernel
theorem dX7_insert_39 : decode cX7_insert 39 = .ok (.aload_n 0, 1) := by decide +kernel
theorem dX7_insert_40 : decode cX7_insert 40 = .ok (.bipush (-4), 2) := by decide +kernel
theorem dX7_insert_42 : decode cX7_insert 42 = .ok (.invokevirtual 52, 3) := by decide +kernel
theorem dX7_insert_45 : decode cX7_insert 45 = .ok (.ireturn, 1) := by decide +kernel
theorem dX7_insert_46 : decode cX7_insert 46 = .ok (.aload_n 0, 1) := by decide +kernel
theorem dX7_insert_47 : decode cX7_insert 47 = .ok (.invokevirtual 56, 3) := by decide +kernel
theorem dX7_insert_50 : decode cX7_insert 50 = .ok (.aload_n 0, 1) := by decide +kernel
theorem dX7_insert_51 : decode cX7_insert 51 = .ok (.getfield 7, 3) := by decide +kernel
theorem dX7_insert_54 : decode cX7_insert 54 = .ok (.iconst 0, 1) := by decide +kernel
theorem dX7_insert_55 : decode cX7_insert 55 = .ok (.iaload, 1) := by decide +kernel
theorem dX7_insert_56 : decode cX7_insert 56 = .ok (.istore_n 3, 1) := by decide +kernel
theorem dX7_insert_57 : decode cX7_insert 57 = .ok (.iload_n 3, 1) := by decide +kernel
theorem dX7_insert_58 : decode cX7_insert 58 = .ok (.iload_n 1, 1) := by decide +kernel
theorem dX7_insert_59 : decode cX7_insert 59 = .ok (.if_icmp .le 27, 3) := by decide +kernel
theorem dX7_insert_62 : decode cX7_insert 62 = .ok (.aload_n 0, 1) := by decide +kernel
theorem dX7_insert_63 : decode cX7_insert 63 = .ok (.getfield 7, 3) := by decide +kernel
theorem dX7_insert_66 : decode cX7_insert 66 = .ok (.iconst 1, 1) := by decide +kernel
theorem dX7_insert_67 : decode cX7_insert 67 = .ok (.iload_n 3, 1) := by decide +kernel
theorem dX7_insert_68 : decode cX7_insert 68 = .ok (.iadd, 1) := by decide +kernel
theorem dX7_insert_69 : decode cX7_insert 69 = .ok (.aload_n 0, 1) := by decide +kernel
theorem dX7_insert_70 : decode cX7_insert 70 = .ok (.getfield 7, 3) := by decide +kernel
theorem dX7_insert_73 : decode cX7_insert 73 = .ok (.iconst 1, 1) := by decide +kernel
theorem dX7_insert_74 : decode cX7_insert 74 = .ok (.iload_n 3, 1) := by decide +kernel
theorem dX7_insert_75 : decode cX7_insert 75 = .ok (.iadd, 1) := by decide +kernel
theorem dX7_insert_76 : decode cX7_insert 76 = .ok (.iconst 1, 1) := by decide +kernel
theorem dX7_insert_77 : decode cX7_insert 77 = .ok (.isub, 1) := by decide +kernel
theorem dX7_insert_78 : decode cX7_insert 78 = .ok (.iaload, 1) := by decide +kernel
theorem dX7_insert_79 : decode cX7_insert 79 = .ok (.iastore, 1) := by decide +kernel
theorem dX7_insert_80 : decode cX7_insert 80 = .ok (.iinc 3 (-1), 3) := by decide +kernel
theorem dX7_insert_83 : decode cX7_insert 83 = .ok (.goto (-26), 3) := by decide +kernel
theorem dX7_insert_86 : decode cX7_insert 86 = .ok (.aload_n 0, 1) := by decide +kernel
theorem dX7_insert_87 : decode cX7_insert 87 = .ok (.getfield 7, 3) := by decide +kernel
theorem dX7_insert_90 : decode cX7_insert 90 = .ok (.iconst 1, 1) := by decide +kernel
theorem dX7_insert_91 : decode cX7_insert 91 = .ok (.iload_n 1, 1) := by decide +kernel
theorem dX7_insert_92 : decode cX7_insert 92 = .ok (.iadd, 1) := by decide +kernel
theorem dX7_insert_93 : decode cX7_insert 93 = .ok (.iload_n 2, 1) := by decide +kernel
theorem dX7_insert_94 : decode cX7_insert 94 = .ok (.iastore, 1) := by decide +kernel
theorem dX7_insert_95 : decode cX7_insert 95 = .ok (.aload_n 0, 1) := by decide +kernel
theorem dX7_insert_96 : decode cX7_insert 96 = .ok (.getfield 7, 3) := by decide +kernel
theorem dX7_insert_99 : decode cX7_insert 99 = .ok (.iconst 0, 1) := by decide +kernel
theorem dX7_insert_100 : decode cX7_insert 100 = .ok (.dup2, 1) := by decide +kernel
theorem dX7_insert_101 : decode cX7_insert 101 = .ok (.iaload, 1) := by decide +kernel
theorem dX7_insert_102 : decode cX7_insert 102 = .ok (.iconst 1, 1) := by decide +kernel
theorem dX7_insert_103 : decode cX7_insert 103 = .ok (.iadd, 1) := by decide +kernel
theorem dX7_insert_104 : decode cX7_insert 104 = .ok (.iastore, 1) := by decide +kernel
theorem dX7_insert_105 : decode cX7_insert 105 = .ok (.aload_n 0, 1) := by decide +kernel
theorem dX7_insert_106 : decode cX7_insert 106 = .ok (.getfield 7, 3) := by decide +kernel
theorem dX7_insert_109 : decode cX7_insert 109 = .ok (.iconst 0, 1) := by decide +kernel
theorem dX7_insert_110 : decode cX7_insert 110 = .ok (.iaload, 1) := by decide +kernel
theorem dX7_insert_111 : decode cX7_insert 111 = .ok (.ireturn, 1) := by decide +kernel
theorem dX7_replace_0 : decode cX7_replace 0 = .ok (.aload_n 0, 1) := by decide +kernel
theorem dX7_replace_1 : decode cX7_replace 1 = .ok (.iload_n 1, 1) := by decide +kernel
theorem dX7_replace_2 : decode cX7_replace 2 = .ok (.invokevirtual 59, 3) := by decide +kernel
theorem dX7_replace_5 : decode cX7_replace 5 = .ok (.ifCond .eq 10, 3) := by decide +kernel
theorem dX7_replace_8 : decode cX7_replace 8 = .ok (.iload_n 2, 1) := by decide +kernel
theorem dX7_replace_9 : decode cX7_replace 9 = .ok (.invokestatic 48, 3) := by decide +kernel
theorem dX7_replace_12 : decode cX7_replace 12 = .ok (.ifCond .ne 10, 3) := by decide +kernel
theorem dX7_replace_15 : decode cX7_replace 15 = .ok (.aload_n 0, 1) := by decide +kernel
theorem dX7_replace_16 : decode cX7_replace 16 = .ok (.bipush (-2), 2) := by decide +kernel
theorem dX7_replace_18 : decode cX7_replace 18 = .ok (.invokevirtual 52, 3) := by decide +kernel
theorem dX7_replace_21 : decode cX7_replace 21 = .ok (.ireturn, 1) := by decide +kernel
theorem dX7_replace_22 : decode cX7_replace 22 = .ok (.aload_n 0, 1) := by decide +kernel
theorem dX7_replace_23 : decode cX7_replace 23 = .ok (.invokevirtual 56, 3) := by decide +kernel
theorem dX7_replace_26 : decode cX7_replace 26 = .ok (.aload_n 0, 1) := by decide +kernel
theorem dX7_replace_27 : decode cX7_replace 27 = .ok (.getfield 7, 3) := by decide +kernel
theorem dX7_replace_30 : decode cX7_replace 30 = .ok (.iconst 1, 1) := by decide +kernel
theorem dX7_replace_31 : decode cX7_replace 31 = .ok (.iload_n 1, 1) := by decide +kernel
theorem dX7_replace_32 : decode cX7_replace 32 = .ok (.iadd, 1) := by decide +kernel
theorem dX7_replace_33 : decode cX7_replace 33 = .ok (.iaload, 1) := by decide +kernel
theorem dX7_replace_34 : decode cX7_replace 34 = .ok (.istore_n 3, 1) := by decide +kernel
theorem dX7_replace_35 : decode cX7_replace 35 = .ok (.aload_n 0, 1) := by decide +kernel
theorem dX7_replace_36 : decode cX7_replace 36 = .ok (.getfield 7, 3) := by decide +kernel
theorem dX7_replace_39 : decode cX7_replace 39 = .ok (.iconst 1, 1) := by decide +kernel
theorem dX7_replace_40 : decode cX7_replace 40 = .ok (.iload_n 1, 1) := by decide +kernel
theorem dX7_replace_41 : decode cX7_replace 41 = .ok (.iadd, 1) := by decide +kernel
theorem dX7_replace_42 : decode cX7_replace 42 = .ok (.iload_n 2, 1) := by decide +kernel
theorem dX7_replace_43 : decode cX7_replace 43 = .ok (.iastore, 1) := by decide +kernel
theorem dX7_replace_44 : decode cX7_replace 44 = .ok (.iload_n 3, 1) := by decide +kernel
theorem dX7_replace_45 : decode cX7_replace 45 = .ok (.ireturn, 1) := by decide +kernel
theorem dX7_delete_0 : decode cX7_delete 0 = .ok (.aload_n 0, 1) := by decide +kernel
theorem dX7_delete_1 : decode cX7_delete 1 = .ok (.iload_n 1, 1) := by decide +kernel
theorem dX7_delete_2 : decode cX7_delete 2 = .ok (.invokevirtual 59, 3) := by decide +kernel
theorem dX7_delete_5 : decode cX7_delete 5 = .ok (.ifCond .eq 19, 3) := by decide +kernel
theorem dX7_delete_8 : decode cX7_delete 8 = .ok (.iload_n 2, 1) := by decide +kernel
theorem dX7_delete_9 : decode cX7_delete 9 = .ok (.iconst 1, 1) := by decide +kernel
theorem dX7_delete_10 : decode cX7_delete 10 = .ok (.aload_n 0, 1) := by decide +kernel
theorem dX7_delete_11 : decode cX7_delete 11 = .ok (.getfield 7, 3) := by decide +kernel
theorem dX7_delete_14 : decode cX7_delete 14 = .ok (.iconst 0, 1) := by decide +kernel
theorem dX7_delete_15 : decode cX7_delete 15 = .ok (.iaload, 1) := by decide +kernel
theorem dX7_delete_16 : decode cX7_delete 16 = .ok (.iload_n 1, 1) := by decide +kernel
theorem dX7_delete_17 : decode cX7_delete 17 = .ok (.isub, 1) := by decide +kernel
theorem dX7_delete_18 : decode cX7_delete 18 = .ok (.invokestatic 44, 3) := by decide +kernel
theorem dX7_delete_21 : decode cX7_delete 21 = .ok (.ifCond .ne 10, 3) := by decide +kernel
theorem dX7_delete_24 : decode cX7_delete 24 = .ok (.aload_n 0, 1) := by decide +kernel
theorem dX7_delete_25 : decode cX7_delete 25 = .ok (.bipush (-2), 2) := by decide +kernel
theorem dX7_delete_27 : decode cX7_delete 27 = .ok (.invokevirtual 52, 3) := by decide +kernel
theorem dX7_delete_30 : decode cX7_delete 30 = .ok (.ireturn, 1) := by decide +kernel
theorem dX7_delete_31 : decode cX7_delete 31 = .ok (.aload_n 0, 1) := by decide +kernel
theorem dX7_delete_32 : decode cX7_delete 32 = .ok (.invokevirtual 56, 3) := by decide +kernel
theorem dX7_delete_35 : decode cX7_delete 35 = .ok (.iload_n 1, 1) := by decide +kernel
theorem dX7_delete_36 : decode cX7_delete 36 = .ok (.istore_n 3, 1) := by decide +kernel
theorem dX7_delete_37 : decode cX7_delete 37 = .ok (.iload_n 3, 1) := by decide +kernel
theorem dX7_delete_38 : decode cX7_delete 38 = .ok (.iload_n 2, 1) := by decide +kernel
theorem dX7_delete_39 : decode cX7_delete 39 = .ok (.iadd, 1) := by decide +kernel
theorem dX7_delete_40 : decode cX7_delete 40 = .ok (.aload_n 0, 1) := by decide +kernel
theorem dX7_delete_41 : decode cX7_delete 41 = .ok (.getfield 7, 3) := by decide +kernel
theorem dX7_delete_44 : decode cX7_delete 44 = .ok (.iconst 0, 1) := by decide +kernel
theorem dX7_delete_45 : decode cX7_delete 45 = .ok (.iaload, 1) := by decide +kernel
theorem dX7_delete_46 : decode cX7_delete 46 = .ok (.if_icmp .ge 27, 3) := by decide +kernel
theorem dX7_delete_49 : decode cX7_delete 49 = .ok (.aload_n 0, 1) := by decide +kernel
theorem dX7_delete_50 : decode cX7_delete 50 = .ok (.getfield 7, 3) := by decide +kernel
theorem dX7_delete_53 : decode cX7_delete 53 = .ok (.iconst 1, 1) := by decide +kernel
theorem dX7_delete_54 : decode cX7_delete 54 = .ok (.iload_n 3, 1) := by decide +kernel
theorem dX7_delete_55 : decode cX7_delete 55 = .ok (.iadd, 1) := by decide +kernel
theorem dX7_delete_56 : decode cX7_delete 56 = .ok (.aload_n 0, 1) := by decide +kernel
theorem dX7_delete_57 : decode cX7_delete 57 = .ok (.getfield 7, 3) := by decide +kernel
theorem dX7_delete_60 : decode cX7_delete 60 = .ok (.iconst 1, 1) := by decide +kernel
theorem dX7_delete_61 : decode cX7_delete 61 = .ok (.iload_n 3, 1) := by decide +kernel
theorem dX7_delete_62 : decode cX7_delete 62 = .ok (.iadd, 1) := by decide +kernel
theorem dX7_delete_63 : decode cX7_delete 63 = .ok (.iload_n 2, 1) := by decide +kernel
theorem dX7_delete_64 : decode cX7_delete 64 = .ok (.iadd, 1) := by decide +kernel
theorem dX7_delete_65 : decode cX7_delete 65 = .ok (.iaload, 1) := by decide +kernel
theorem dX7_delete_66 : decode cX7_delete 66 = .ok (.iastore, 1) := by decide +kernel
theorem dX7_delete_67 : decode cX7_delete 67 = .ok (.iinc 3 1, 3) := by decide +kernel
theorem dX7_delete_70 : decode cX7_delete 70 = .ok (.goto (-33), 3) := by decide +kernel
theorem dX7_delete_73 : decode cX7_delete 73 = .ok (.aload_n 0, 1) := by decide +kernel
theorem dX7_delete_74 : decode cX7_delete 74 = .ok (.getfield 7, 3) := by decide +kernel
theorem dX7_delete_77 : decode cX7_delete 77 = .ok (.iconst 0, 1) := by decide +kernel
theorem dX7_delete_78 : decode cX7_delete 78 = .ok (.dup2, 1) := by decide +kernel
theorem dX7_delete_79 : decode cX7_delete 79 = .ok (.iaload, 1) := by decide +kernel
theorem dX7_delete_80 : decode cX7_delete 80 = .ok (.iload_n 2, 1) := by decide +kernel
theorem dX7_delete_81 : decode cX7_delete 81 = .ok (.isub, 1) := by decide +kernel
theorem dX7_delete_82 : decode cX7_delete 82 = .ok (.iastore, 1) := by decide +kernel
theorem dX7_delete_83 : decode cX7_delete 83 = .ok (.aload_n 0, 1) := by decide +kernel
theorem dX7_delete_84 : decode cX7_delete 84 = .ok (.getfield 7, 3) := by decide +kernel
theorem dX7_delete_87 : decode cX7_delete 87 = .ok (.iconst 0, 1) := by decide +kernel
theorem dX7_delete_88 : decode cX7_delete 88 = .ok (.iaload, 1) := by decide +kernel
theorem dX7_delete_89 : decode cX7_delete 89 = .ok (.ireturn, 1) := by decide +kernel
theorem dX7_length_0 : decode cX7_length 0 = .ok (.aload_n 0, 1) := by decide +kernel
theorem dX7_length_1 : decode cX7_length 1 = .ok (.getfield 7, 3) := by decide +kernel
theorem dX7_length_4 : decode cX7_length 4 = .ok (.iconst 0, 1) := by decide +kernel
theorem dX7_length_5 : decode cX7_length 5 = .ok (.iaload, 1) := by decide +kernel
theorem dX7_length_6 : decode cX7_length 6 = .ok (.ireturn, 1) := by decide +kernel
theorem dX7_byteAt_0 : decode cX7_byteAt 0 = .ok (.aload_n 0, 1) := by decide +kernel
theorem dX7_byteAt_1 : decode cX7_byteAt 1 = .ok (.iload_n 1, 1) := by decide +kernel
theorem dX7_byteAt_2 : decode cX7_byteAt 2 = .ok (.invokevirtual 59, 3) := by decide +kernel
theorem dX7_byteAt_5 : decode cX7_byteAt 5 = .ok (.ifCond .eq 14, 3) := by decide +kernel
theorem dX7_byteAt_8 : decode cX7_byteAt 8 = .ok (.aload_n 0, 1) := by decide +kernel
theorem dX7_byteAt_9 : decode cX7_byteAt 9 = .ok (.getfield 7, 3) := by decide +kernel
theorem dX7_byteAt_12 : decode cX7_byteAt 12 = .ok (.iconst 1, 1) := by decide +kernel
theorem dX7_byteAt_13 : decode cX7_byteAt 13 = .ok (.iload_n 1, 1) := by decide +kernel
theorem dX7_byteAt_14 : decode cX7_byteAt 14 = .ok (.iadd, 1) := by decide +kernel
theorem dX7_byteAt_15 : decode cX7_byteAt 15 = .ok (.iaload, 1) := by decide +kernel
theorem dX7_byteAt_16 : decode cX7_byteAt 16 = .ok (.goto 9, 3) := by decide +kernel
theorem dX7_byteAt_19 : decode cX7_byteAt 19 = .ok (.aload_n 0, 1) := by decide +kernel
theorem dX7_byteAt_20 : decode cX7_byteAt 20 = .ok (.bipush (-2), 2) := by decide +kernel
theorem dX7_byteAt_22 : decode cX7_byteAt 22 = .ok (.invokevirtual 52, 3) := by decide +kernel
theorem dX7_byteAt_25 : decode cX7_byteAt 25 = .ok (.ireturn, 1) := by decide +kernel
theorem dX7_isRule_0 : decode cX7_isRule 0 = .ok (.iload_n 0, 1) := by decide +kernel
theorem dX7_isRule_1 : decode cX7_isRule 1 = .ok (.iconst 0, 1) := by decide +kernel
theorem dX7_isRule_2 : decode cX7_isRule 2 = .ok (.iconst 5, 1) := by decide +kernel
theorem dX7_isRule_3 : decode cX7_isRule 3 = .ok (.invokestatic 44, 3) := by decide +kernel
theorem dX7_isRule_6 : decode cX7_isRule 6 = .ok (.ireturn, 1) := by decide +kernel
theorem dX7_append_0 : decode cX7_append 0 = .ok (.iload_n 1, 1) := by decide +kernel
theorem dX7_append_1 : decode cX7_append 1 = .ok (.invokestatic 48, 3) := by decide +kernel
theorem dX7_append_4 : decode cX7_append 4 = .ok (.ifCond .ne 10, 3) := by decide +kernel
theorem dX7_append_7 : decode cX7_append 7 = .ok (.aload_n 0, 1) := by decide +kernel
theorem dX7_append_8 : decode cX7_append 8 = .ok (.bipush (-2), 2) := by decide +kernel
theorem dX7_append_10 : decode cX7_append 10 = .ok (.invokevirtual 52, 3) := by decide +kernel
theorem dX7_append_13 : decode cX7_append 13 = .ok (.ireturn, 1) := by decide +kernel
theorem dX7_append_14 : decode cX7_append 14 = .ok (.aload_n 0, 1) := by decide +kernel
theorem dX7_append_15 : decode cX7_append 15 = .ok (.getfield 62, 3) := by decide +kernel
theorem dX7_append_18 : decode cX7_append 18 = .ok (.bipush 8, 2) := by decide +kernel
theorem dX7_append_20 : decode cX7_append 20 = .ok (.if_icmp .ne 10, 3) := by decide +kernel
theorem dX7_append_23 : decode cX7_append 23 = .ok (.aload_n 0, 1) := by decide +kernel
theorem dX7_append_24 : decode cX7_append 24 = .ok (.bipush (-4), 2) := by decide +kernel
theorem dX7_append_26 : decode cX7_append 26 = .ok (.invokevirtual 52, 3) := by decide +kernel
theorem dX7_append_29 : decode cX7_append 29 = .ok (.ireturn, 1) := by decide +kernel
theorem dX7_append_30 : decode cX7_append 30 = .ok (.aload_n 0, 1) := by decide +kernel
theorem dX7_append_31 : decode cX7_append 31 = .ok (.getfield 16, 3) := by decide +kernel
theorem dX7_append_34 : decode cX7_append 34 = .ok (.aload_n 0, 1) := by decide +kernel
theorem dX7_append_35 : decode cX7_append 35 = .ok (.getfield 62, 3) := by decide +kernel
theorem dX7_append_38 : decode cX7_append 38 = .ok (.iload_n 1, 1) := by decide +kernel
theorem dX7_append_39 : decode cX7_append 39 = .ok (.iastore, 1) := by decide +kernel
theorem dX7_append_40 : decode cX7_append 40 = .ok (.aload_n 0, 1) := by decide +kernel
theorem dX7_append_41 : decode cX7_append 41 = .ok (.dup, 1) := by decide +kernel
theorem dX7_append_42 : decode cX7_append 42 = .ok (.getfield 62, 3) := by decide +kernel
theorem dX7_append_45 : decode cX7_append 45 = .ok (.iconst 1, 1) := by decide +kernel
theorem dX7_append_46 : decode cX7_append 46 = .ok (.iadd, 1) := by decide +kernel
theorem dX7_append_47 : decode cX7_append 47 = .ok (.putfield 62, 3) := by decide +kernel
theorem dX7_append_50 : decode cX7_append 50 = .ok (.aload_n 0, 1) := by decide +kernel
theorem dX7_append_51 : decode cX7_append 51 = .ok (.getfield 62, 3) := by decide +kernel
theorem dX7_append_54 : decode cX7_append 54 = .ok (.ireturn, 1) := by decide +kernel
theorem dX7_clearPattern_0 : decode cX7_clearPattern 0 = .ok (.aload_n 0, 1) := by decide +kernel
theorem dX7_clearPattern_1 : decode cX7_clearPattern 1 = .ok (.getfield 62, 3) := by decide +kernel
theorem dX7_clearPattern_4 : decode cX7_clearPattern 4 = .ok (.istore_n 1, 1) := by decide +kernel
theorem dX7_clearPattern_5 : decode cX7_clearPattern 5 = .ok (.aload_n 0, 1) := by decide +kernel
theorem dX7_clearPattern_6 : decode cX7_clearPattern 6 = .ok (.iconst 0, 1) := by decide +kernel
theorem dX7_clearPattern_7 : decode cX7_clearPattern 7 = .ok (.putfield 62, 3) := by decide +kernel
theorem dX7_clearPattern_10 : decode cX7_clearPattern 10 = .ok (.iload_n 1, 1) := by decide +kernel
theorem dX7_clearPattern_11 : decode cX7_clearPattern 11 = .ok (.ireturn, 1) := by decide +kernel
theorem dX7_isReference_0 : decode cX7_isReference 0 = .ok (.iload_n 0, 1) := by decide +kernel
theorem dX7_isReference_1 : decode cX7_isReference 1 = .ok (.bipush 65, 2) := by decide +kernel
theorem dX7_isReference_3 : decode cX7_isReference 3 = .ok (.bipush 70, 2) := by decide +kernel
theorem dX7_isReference_5 : decode cX7_isReference 5 = .ok (.invokestatic 44, 3) := by decide +kernel
theorem dX7_isReference_8 : decode cX7_isReference 8 = .ok (.ireturn, 1) := by decide +kernel
theorem dX7_define_0 : decode cX7_define 0 = .ok (.iload_n 1, 1) := by decide +kernel
theorem dX7_define_1 : decode cX7_define 1 = .ok (.invokestatic 65, 3) := by decide +kernel
theorem dX7_define_4 : decode cX7_define 4 = .ok (.ifCond .ne 10, 3) := by decide +kernel
theorem dX7_define_7 : decode cX7_define 7 = .ok (.aload_n 0, 1) := by decide +kernel
theorem dX7_define_8 : decode cX7_define 8 = .ok (.bipush (-2), 2) := by decide +kernel
theorem dX7_define_10 : decode cX7_define 10 = .ok (.invokevirtual 52, 3) := by decide +kernel
theorem dX7_define_13 : decode cX7_define 13 = .ok (.ireturn, 1) := by decide +kernel
theorem dX7_define_14 : decode cX7_define 14 = .ok (.aload_n 0, 1) := by decide +kernel
theorem dX7_define_15 : decode cX7_define 15 = .ok (.getfield 62, 3) := by decide +kernel
theorem dX7_define_18 : decode cX7_define 18 = .ok (.ifCond .eq 26, 3) := by decide +kernel
theorem dX7_define_21 : decode cX7_define 21 = .ok (.aload_n 0, 1) := by decide +kernel
theorem dX7_define_22 : decode cX7_define 22 = .ok (.getfield 16, 3) := by decide +kernel
theorem dX7_define_25 : decode cX7_define 25 = .ok (.iconst 0, 1) := by decide +kernel
theorem dX7_define_26 : decode cX7_define 26 = .ok (.iaload, 1) := by decide +kernel
theorem dX7_define_27 : decode cX7_define 27 = .ok (.bipush 126, 2) := by decide +kernel
theorem dX7_define_29 : decode cX7_define 29 = .ok (.if_icmp .eq 15, 3) := by decide +kernel
theorem dX7_define_32 : decode cX7_define 32 = .ok (.aload_n 0, 1) := by decide +kernel
theorem dX7_define_33 : decode cX7_define 33 = .ok (.getfield 16, 3) := by decide +kernel
theorem dX7_define_36 : decode cX7_define 36 = .ok (.iconst 0, 1) := by decide +kernel
theorem dX7_define_37 : decode cX7_define 37 = .ok (.iaload, 1) := by decide +kernel
theorem dX7_define_38 : decode cX7_define 38 = .ok (.invokestatic 68, 3) := by decide +kernel
theorem dX7_define_41 : decode cX7_define 41 = .ok (.ifCond .eq 10, 3) := by decide +kernel
theorem dX7_define_44 : decode cX7_define 44 = .ok (.aload_n 0, 1) := by decide +kernel
theorem dX7_define_45 : decode cX7_define 45 = .ok (.bipush (-3), 2) := by decide +kernel
theorem dX7_define_47 : decode cX7_define 47 = .ok (.invokevirtual 52, 3) := by decide +kernel
theorem dX7_define_50 : decode cX7_define 50 = .ok (.ireturn, 1) := by decide +kernel
theorem dX7_define_51 : decode cX7_define 51 = .ok (.aload_n 0, 1) := by decide +kernel
theorem dX7_define_52 : decode cX7_define 52 = .ok (.invokevirtual 56, 3) := by decide +kernel
theorem dX7_define_55 : decode cX7_define 55 = .ok (.iconst 0, 1) := by decide +kernel
theorem dX7_define_56 : decode cX7_define 56 = .ok (.istore_n 2, 1) := by decide +kernel
theorem dX7_define_57 : decode cX7_define 57 = .ok (.iload_n 2, 1) := by decide +kernel
theorem dX7_define_58 : decode cX7_define 58 = .ok (.aload_n 0, 1) := by decide +kernel
theorem dX7_define_59 : decode cX7_define 59 = .ok (.getfield 62, 3) := by decide +kernel
theorem dX7_define_62 : decode cX7_define 62 = .ok (.if_icmp .ge 29, 3) := by decide +kernel
theorem dX7_define_65 : decode cX7_define 65 = .ok (.aload_n 0, 1) := by decide +kernel
theorem dX7_define_66 : decode cX7_define 66 = .ok (.getfield 7, 3) := by decide +kernel
theorem dX7_define_69 : decode cX7_define 69 = .ok (.bipush 107, 2) := by decide +kernel
theorem dX7_define_71 : decode cX7_define 71 = .ok (.bipush 8, 2) := by decide +kernel
theorem dX7_define_73 : decode cX7_define 73 = .ok (.iload_n 1, 1) := by decide +kernel
theorem dX7_define_74 : decode cX7_define 74 = .ok (.imul, 1) := by decide +kernel
theorem dX7_define_75 : decode cX7_define 75 = .ok (.iadd, 1) := by decide +kernel
theorem dX7_define_76 : decode cX7_define 76 = .ok (.iload_n 2, 1) := by decide +kernel
theorem dX7_define_77 : decode cX7_define 77 = .ok (.iadd, 1) := by decide +kernel
theorem dX7_define_78 : decode cX7_define 78 = .ok (.aload_n 0, 1) := by decide +kernel
theorem dX7_define_79 : decode cX7_define 79 = .ok (.getfield 16, 3) := by decide +kernel
theorem dX7_define_82 : decode cX7_define 82 = .ok (.iload_n 2, 1) := by decide +kernel
theorem dX7_define_83 : decode cX7_define 83 = .ok (.iaload, 1) := by decide +kernel
theorem dX7_define_84 : decode cX7_define 84 = .ok (.iastore, 1) := by decide +kernel
theorem dX7_define_85 : decode cX7_define 85 = .ok (.iinc 2 1, 3) := by decide +kernel
theorem dX7_define_88 : decode cX7_define 88 = .ok (.goto (-31), 3) := by decide +kernel
theorem dX7_define_91 : decode cX7_define 91 = .ok (.aload_n 0, 1) := by decide +kernel
theorem dX7_define_92 : decode cX7_define 92 = .ok (.getfield 7, 3) := by decide +kernel
theorem dX7_define_95 : decode cX7_define 95 = .ok (.bipush 101, 2) := by decide +kernel
theorem dX7_define_97 : decode cX7_define 97 = .ok (.iload_n 1, 1) := by decide +kernel
theorem dX7_define_98 : decode cX7_define 98 = .ok (.iadd, 1) := by decide +kernel
theorem dX7_define_99 : decode cX7_define 99 = .ok (.aload_n 0, 1) := by decide +kernel
theorem dX7_define_100 : decode cX7_define 100 = .ok (.getfield 62, 3) := by decide +kernel
theorem dX7_define_103 : decode cX7_define 103 = .ok (.iastore, 1) := by decide +kernel
theorem dX7_define_104 : decode cX7_define 104 = .ok (.aload_n 0, 1) := by decide +kernel
theorem dX7_define_105 : decode cX7_define 105 = .ok (.getfield 62, 3) := by decide +kernel
theorem dX7_define_108 : decode cX7_define 108 = .ok (.ireturn, 1) := by decide +kernel
theorem dX7_undefine_0 : decode cX7_undefine 0 = .ok (.iload_n 1, 1) := by decide +kernel
theorem dX7_undefine_1 : decode cX7_undefine 1 = .ok (.invokestatic 65, 3) := by decide +kernel
theorem dX7_undefine_4 : decode cX7_undefine 4 = .ok (.ifCond .ne 10, 3) := by decide +kernel
theorem dX7_undefine_7 : decode cX7_undefine 7 = .ok (.aload_n 0, 1) := by decide +kernel
theorem dX7_undefine_8 : decode cX7_undefine 8 = .ok (.bipush (-2), 2) := by decide +kernel
theorem dX7_undefine_10 : decode cX7_undefine 10 = .ok (.invokevirtual 52, 3) := by decide +kernel
theorem dX7_undefine_13 : decode cX7_undefine 13 = .ok (.ireturn, 1) := by decide +kernel
theorem dX7_undefine_14 : decode cX7_undefine 14 = .ok (.aload_n 0, 1) := by decide +kernel
theorem dX7_undefine_15 : decode cX7_undefine 15 = .ok (.invokevirtual 56, 3) := by decide +kernel
theorem dX7_undefine_18 : decode cX7_undefine 18 = .ok (.aload_n 0, 1) := by decide +kernel
theorem dX7_undefine_19 : decode cX7_undefine 19 = .ok (.getfield 7, 3) := by decide +kernel
theorem dX7_undefine_22 : decode cX7_undefine 22 = .ok (.bipush 101, 2) := by decide +kernel
theorem dX7_undefine_24 : decode cX7_undefine 24 = .ok (.iload_n 1, 1) := by decide +kernel
theorem dX7_undefine_25 : decode cX7_undefine 25 = .ok (.iadd, 1) := by decide +kernel
theorem dX7_undefine_26 : decode cX7_undefine 26 = .ok (.iaload, 1) := by decide +kernel
theorem dX7_undefine_27 : decode cX7_undefine 27 = .ok (.istore_n 2, 1) := by decide +kernel
theorem dX7_undefine_28 : decode cX7_undefine 28 = .ok (.aload_n 0, 1) := by decide +kernel
theorem dX7_undefine_29 : decode cX7_undefine 29 = .ok (.getfield 7, 3) := by decide +kernel
theorem dX7_undefine_32 : decode cX7_undefine 32 = .ok (.bipush 101, 2) := by decide +kernel
theorem dX7_undefine_34 : decode cX7_undefine 34 = .ok (.iload_n 1, 1) := by decide +kernel
theorem dX7_undefine_35 : decode cX7_undefine 35 = .ok (.iadd, 1) := by decide +kernel
theorem dX7_undefine_36 : decode cX7_undefine 36 = .ok (.iconst 0, 1) := by decide +kernel
theorem dX7_undefine_37 : decode cX7_undefine 37 = .ok (.iastore, 1) := by decide +kernel
theorem dX7_undefine_38 : decode cX7_undefine 38 = .ok (.iload_n 2, 1) := by decide +kernel
theorem dX7_undefine_39 : decode cX7_undefine 39 = .ok (.ireturn, 1) := by decide +kernel
theorem dX7_setStop_0 : decode cX7_setStop 0 = .ok (.iload_n 1, 1) := by decide +kernel
theorem dX7_setStop_1 : decode cX7_setStop 1 = .ok (.invokestatic 65, 3) := by decide +kernel
theorem dX7_setStop_4 : decode cX7_setStop 4 = .ok (.ifCond .eq 15, 3) := by decide +kernel
theorem dX7_setStop_7 : decode cX7_setStop 7 = .ok (.iload_n 2, 1) := by decide +kernel
theorem dX7_setStop_8 : decode cX7_setStop 8 = .ok (.iconst (-1), 1) := by decide +kernel
theorem dX7_setStop_9 : decode cX7_setStop 9 = .ok (.if_icmp .eq 17, 3) := by decide +kernel
theorem dX7_setStop_12 : decode cX7_setStop 12 = .ok (.iload_n 2, 1) := by decide +kernel
theorem dX7_setStop_13 : decode cX7_setStop 13 = .ok (.invokestatic 48, 3) := by decide +kernel
theorem dX7_setStop_16 : decode cX7_setStop 16 = .ok (.ifCond .ne 10, 3) := by decide +kernel
theorem dX7_setStop_19 : decode cX7_setStop 19 = .ok (.aload_n 0, 1) := by decide +kernel
theorem dX7_setStop_20 : decode cX7_setStop 20 = .ok (.bipush (-2), 2) := by decide +kernel
theorem dX7_setStop_22 : decode cX7_setStop 22 = .ok (.invokevirtual 52, 3) := by decide +kernel
theorem dX7_setStop_25 : decode cX7_setStop 25 = .ok (.ireturn, 1) := by decide +kernel
theorem dX7_setStop_26 : decode cX7_setStop 26 = .ok (.aload_n 0, 1) := by decide +kernel
theorem dX7_setStop_27 : decode cX7_setStop 27 = .ok (.invokevirtual 56, 3) := by decide +kernel
theorem dX7_setStop_30 : decode cX7_setStop 30 = .ok (.aload_n 0, 1) := by decide +kernel
theorem dX7_setStop_31 : decode cX7_setStop 31 = .ok (.getfield 7, 3) := by decide +kernel
theorem dX7_setStop_34 : decode cX7_setStop 34 = .ok (.sipush 155, 3) := by decide +kernel
theorem dX7_setStop_37 : decode cX7_setStop 37 = .ok (.iload_n 1, 1) := by decide +kernel
theorem dX7_setStop_38 : decode cX7_setStop 38 = .ok (.iadd, 1) := by decide +kernel
theorem dX7_setStop_39 : decode cX7_setStop 39 = .ok (.iaload, 1) := by decide +kernel
theorem dX7_setStop_40 : decode cX7_setStop 40 = .ok (.istore_n 3, 1) := by decide +kernel
theorem dX7_setStop_41 : decode cX7_setStop 41 = .ok (.aload_n 0, 1) := by decide +kernel
theorem dX7_setStop_42 : decode cX7_setStop 42 = .ok (.getfield 7, 3) := by decide +kernel
theorem dX7_setStop_45 : decode cX7_setStop 45 = .ok (.sipush 155, 3) := by decide +kernel
theorem dX7_setStop_48 : decode cX7_setStop 48 = .ok (.iload_n 1, 1) := by decide +kernel
theorem dX7_setStop_49 : decode cX7_setStop 49 = .ok (.iadd, 1) := by decide +kernel
theorem dX7_setStop_50 : decode cX7_setStop 50 = .ok (.iload_n 2, 1) := by decide +kernel
theorem dX7_setStop_51 : decode cX7_setStop 51 = .ok (.iastore, 1) := by decide +kernel
theorem dX7_setStop_52 : decode cX7_setStop 52 = .ok (.iload_n 3, 1) := by decide +kernel
theorem dX7_setStop_53 : decode cX7_setStop 53 = .ok (.ireturn, 1) := by decide +kernel
theorem dX7_elementOf_0 : decode cX7_elementOf 0 = .ok (.aload_n 0, 1) := by decide +kernel
theorem dX7_elementOf_1 : decode cX7_elementOf 1 = .ok (.getfield 7, 3) := by decide +kernel
theorem dX7_elementOf_4 : decode cX7_elementOf 4 = .ok (.bipush 107, 2) := by decide +kernel
theorem dX7_elementOf_6 : decode cX7_elementOf 6 = .ok (.bipush 8, 2) := by decide +kernel
theorem dX7_elementOf_8 : decode cX7_elementOf 8 = .ok (.iload_n 1, 1) := by decide +kernel
theorem dX7_elementOf_9 : decode cX7_elementOf 9 = .ok (.imul, 1) := by decide +kernel
theorem dX7_elementOf_10 : decode cX7_elementOf 10 = .ok (.iadd, 1) := by decide +kernel
theorem dX7_elementOf_11 : decode cX7_elementOf 11 = .ok (.iload_n 2, 1) := by decide +kernel
theorem dX7_elementOf_12 : decode cX7_elementOf 12 = .ok (.iadd, 1) := by decide +kernel
theorem dX7_elementOf_13 : decode cX7_elementOf 13 = .ok (.iaload, 1) := by decide +kernel
theorem dX7_elementOf_14 : decode cX7_elementOf 14 = .ok (.ireturn, 1) := by decide +kernel
theorem dX7_element_0 : decode cX7_element 0 = .ok (.iload_n 1, 1) := by decide +kernel
theorem dX7_element_1 : decode cX7_element 1 = .ok (.invokestatic 65, 3) := by decide +kernel
theorem dX7_element_4 : decode cX7_element 4 = .ok (.ifCond .eq 7, 3) := by decide +kernel
theorem dX7_element_7 : decode cX7_element 7 = .ok (.iload_n 2, 1) := by decide +kernel
theorem dX7_element_8 : decode cX7_element 8 = .ok (.ifCond .ge 10, 3) := by decide +kernel
theorem dX7_element_11 : decode cX7_element 11 = .ok (.aload_n 0, 1) := by decide +kernel
theorem dX7_element_12 : decode cX7_element 12 = .ok (.bipush (-2), 2) := by decide +kernel
theorem dX7_element_14 : decode cX7_element 14 = .ok (.invokevirtual 52, 3) := by decide +kernel
theorem dX7_element_17 : decode cX7_element 17 = .ok (.ireturn, 1) := by decide +kernel
theorem dX7_element_18 : decode cX7_element 18 = .ok (.iload_n 2, 1) := by decide +kernel
theorem dX7_element_19 : decode cX7_element 19 = .ok (.aload_n 0, 1) := by decide +kernel
theorem dX7_element_20 : decode cX7_element 20 = .ok (.getfield 7, 3) := by decide +kernel
theorem dX7_element_23 : decode cX7_element 23 = .ok (.bipush 101, 2) := by decide +kernel
theorem dX7_element_25 : decode cX7_element 25 = .ok (.iload_n 1, 1) := by decide +kernel
theorem dX7_element_26 : decode cX7_element 26 = .ok (.iadd, 1) := by decide +kernel
theorem dX7_element_27 : decode cX7_element 27 = .ok (.iaload, 1) := by decide +kernel
theorem dX7_element_28 : decode cX7_element 28 = .ok (.if_icmp .ge 12, 3) := by decide +kernel
theorem dX7_element_31 : decode cX7_element 31 = .ok (.aload_n 0, 1) := by decide +kernel
theorem dX7_element_32 : decode cX7_element 32 = .ok (.iload_n 1, 1) := by decide +kernel
theorem dX7_element_33 : decode cX7_element 33 = .ok (.iload_n 2, 1) := by decide +kernel
theorem dX7_element_34 : decode cX7_element 34 = .ok (.invokevirtual 71, 3) := by decide +kernel
theorem dX7_element_37 : decode cX7_element 37 = .ok (.goto 4, 3) := by decide +kernel
theorem dX7_element_40 : decode cX7_element 40 = .ok (.iconst (-1), 1) := by decide +kernel
theorem dX7_element_41 : decode cX7_element 41 = .ok (.ireturn, 1) := by decide +kernel
theorem dX7_cell_0 : decode cX7_cell 0 = .ok (.bipush 101, 2) := by decide +kernel
theorem dX7_cell_2 : decode cX7_cell 2 = .ok (.bipush 9, 2) := by decide +kernel
theorem dX7_cell_4 : decode cX7_cell 4 = .ok (.iload_n 0, 1) := by decide +kernel
theorem dX7_cell_5 : decode cX7_cell 5 = .ok (.imul, 1) := by decide +kernel
theorem dX7_cell_6 : decode cX7_cell 6 = .ok (.iload_n 1, 1) := by decide +kernel
theorem dX7_cell_7 : decode cX7_cell 7 = .ok (.iadd, 1) := by decide +kernel
theorem dX7_cell_8 : decode cX7_cell 8 = .ok (.imul, 1) := by decide +kernel
theorem dX7_cell_9 : decode cX7_cell 9 = .ok (.iload_n 2, 1) := by decide +kernel
theorem dX7_cell_10 : decode cX7_cell 10 = .ok (.iadd, 1) := by decide +kernel
theorem dX7_cell_11 : decode cX7_cell 11 = .ok (.ireturn, 1) := by decide +kernel
theorem dX7_isOf_0 : decode cX7_isOf 0 = .ok (.iload_n 1, 1) := by decide +kernel
theorem dX7_isOf_1 : decode cX7_isOf 1 = .ok (.aload_n 0, 1) := by decide +kernel
theorem dX7_isOf_2 : decode cX7_isOf 2 = .ok (.getfield 7, 3) := by decide +kernel
theorem dX7_isOf_5 : decode cX7_isOf 5 = .ok (.iconst 0, 1) := by decide +kernel
theorem dX7_isOf_6 : decode cX7_isOf 6 = .ok (.iaload, 1) := by decide +kernel
theorem dX7_isOf_7 : decode cX7_isOf 7 = .ok (.if_icmp .ge 23, 3) := by decide +kernel
theorem dX7_isOf_10 : decode cX7_isOf 10 = .ok (.aload_n 0, 1) := by decide +kernel
theorem dX7_isOf_11 : decode cX7_isOf 11 = .ok (.getfield 7, 3) := by decide +kernel
theorem dX7_isOf_14 : decode cX7_isOf 14 = .ok (.iconst 1, 1) := by decide +kernel
theorem dX7_isOf_15 : decode cX7_isOf 15 = .ok (.iload_n 1, 1) := by decide +kernel
theorem dX7_isOf_16 : decode cX7_isOf 16 = .ok (.iadd, 1) := by decide +kernel
theorem dX7_isOf_17 : decode cX7_isOf 17 = .ok (.iaload, 1) := by decide +kernel
theorem dX7_isOf_18 : decode cX7_isOf 18 = .ok (.iload_n 2, 1) := by decide +kernel
theorem dX7_isOf_19 : decode cX7_isOf 19 = .ok (.iload_n 3, 1) := by decide +kernel
theorem dX7_isOf_20 : decode cX7_isOf 20 = .ok (.invokestatic 44, 3) := by decide +kernel
theorem dX7_isOf_23 : decode cX7_isOf 23 = .ok (.ifCond .eq 7, 3) := by decide +kernel
theorem dX7_isOf_26 : decode cX7_isOf 26 = .ok (.iconst 1, 1) := by decide +kernel
theorem dX7_isOf_27 : decode cX7_isOf 27 = .ok (.goto 4, 3) := by decide +kernel
theorem dX7_isOf_30 : decode cX7_isOf 30 = .ok (.iconst 0, 1) := by decide +kernel
theorem dX7_isOf_31 : decode cX7_isOf 31 = .ok (.ireturn, 1) := by decide +kernel
theorem dX7_runEnd_0 : decode cX7_runEnd 0 = .ok (.iload_n 1, 1) := by decide +kernel
theorem dX7_runEnd_1 : decode cX7_runEnd 1 = .ok (.istore 4, 2) := by decide +kernel
theorem dX7_runEnd_3 : decode cX7_runEnd 3 = .ok (.aload_n 0, 1) := by decide +kernel
theorem dX7_runEnd_4 : decode cX7_runEnd 4 = .ok (.iload 4, 2) := by decide +kernel
theorem dX7_runEnd_6 : decode cX7_runEnd 6 = .ok (.iload_n 2, 1) := by decide +kernel
theorem dX7_runEnd_7 : decode cX7_runEnd 7 = .ok (.iload_n 3, 1) := by decide +kernel
theorem dX7_runEnd_8 : decode cX7_runEnd 8 = .ok (.invokevirtual 75, 3) := by decide +kernel
theorem dX7_runEnd_11 : decode cX7_runEnd 11 = .ok (.ifCond .eq 9, 3) := by decide +kernel
theorem dX7_runEnd_14 : decode cX7_runEnd 14 = .ok (.iinc 4 1, 3) := by decide +kernel
theorem dX7_runEnd_17 : decode cX7_runEnd 17 = .ok (.goto (-14), 3) := by decide +kernel
theorem dX7_runEnd_20 : decode cX7_runEnd 20 = .ok (.iload 4, 2) := by decide +kernel
theorem dX7_runEnd_22 : decode cX7_runEnd 22 = .ok (.ireturn, 1) := by decide +kernel
theorem dX7_elementEnd_0 : decode cX7_elementEnd 0 = .ok (.iload_n 1, 1) := by decide +kernel
theorem dX7_elementEnd_1 : decode cX7_elementEnd 1 = .ok (.invokestatic 68, 3) := by decide +kernel
theorem dX7_elementEnd_4 : decode cX7_elementEnd 4 = .ok (.ifCond .eq 18, 3) := by decide +kernel
theorem dX7_elementEnd_7 : decode cX7_elementEnd 7 = .ok (.aload_n 0, 1) := by decide +kernel
theorem dX7_elementEnd_8 : decode cX7_elementEnd 8 = .ok (.getfield 22, 3) := by decide +kernel
theorem dX7_elementEnd_11 : decode cX7_elementEnd 11 = .ok (.iload_n 1, 1) := by decide +kernel
theorem dX7_elementEnd_12 : decode cX7_elementEnd 12 = .ok (.bipush 65, 2) := by decide +kernel
theorem dX7_elementEnd_14 : decode cX7_elementEnd 14 = .ok (.isub, 1) := by decide +kernel
theorem dX7_elementEnd_15 : decode cX7_elementEnd 15 = .ok (.iconst 0, 1) := by decide +kernel
theorem dX7_elementEnd_16 : decode cX7_elementEnd 16 = .ok (.iload_n 2, 1) := by decide +kernel
theorem dX7_elementEnd_17 : decode cX7_elementEnd 17 = .ok (.invokestatic 78, 3) := by decide +kernel
theorem dX7_elementEnd_20 : decode cX7_elementEnd 20 = .ok (.iaload, 1) := by decide +kernel
theorem dX7_elementEnd_21 : decode cX7_elementEnd 21 = .ok (.ireturn, 1) := by decide +kernel
theorem dX7_elementEnd_22 : decode cX7_elementEnd 22 = .ok (.iload_n 1, 1) := by decide +kernel
theorem dX7_elementEnd_23 : decode cX7_elementEnd 23 = .ok (.bipush 35, 2) := by decide +kernel
theorem dX7_elementEnd_25 : decode cX7_elementEnd 25 = .ok (.if_icmp .eq 9, 3) := by decide +kernel
theorem dX7_elementEnd_28 : decode cX7_elementEnd 28 = .ok (.iload_n 1, 1) := by decide +kernel
theorem dX7_elementEnd_29 : decode cX7_elementEnd 29 = .ok (.bipush 64, 2) := by decide +kernel
theorem dX7_elementEnd_31 : decode cX7_elementEnd 31 = .ok (.if_icmp .ne 42, 3) := by decide +kernel
theorem dX7_elementEnd_34 : decode cX7_elementEnd 34 = .ok (.iload_n 1, 1) := by decide +kernel
theorem dX7_elementEnd_35 : decode cX7_elementEnd 35 = .ok (.bipush 35, 2) := by decide +kernel
theorem dX7_elementEnd_37 : decode cX7_elementEnd 37 = .ok (.if_icmp .ne 15, 3) := by decide +kernel
theorem dX7_elementEnd_40 : decode cX7_elementEnd 40 = .ok (.aload_n 0, 1) := by decide +kernel
theorem dX7_elementEnd_41 : decode cX7_elementEnd 41 = .ok (.iload_n 2, 1) := by decide +kernel
theorem dX7_elementEnd_42 : decode cX7_elementEnd 42 = .ok (.bipush 48, 2) := by decide +kernel
theorem dX7_elementEnd_44 : decode cX7_elementEnd 44 = .ok (.bipush 57, 2) := by decide +kernel
theorem dX7_elementEnd_46 : decode cX7_elementEnd 46 = .ok (.invokevirtual 82, 3) := by decide +kernel
theorem dX7_elementEnd_49 : decode cX7_elementEnd 49 = .ok (.goto 12, 3) := by decide +kernel
theorem dX7_elementEnd_52 : decode cX7_elementEnd 52 = .ok (.aload_n 0, 1) := by decide +kernel
theorem dX7_elementEnd_53 : decode cX7_elementEnd 53 = .ok (.iload_n 2, 1) := by decide +kernel
theorem dX7_elementEnd_54 : decode cX7_elementEnd 54 = .ok (.bipush 97, 2) := by decide +kernel
theorem dX7_elementEnd_56 : decode cX7_elementEnd 56 = .ok (.bipush 122, 2) := by decide +kernel
theorem dX7_elementEnd_58 : decode cX7_elementEnd 58 = .ok (.invokevirtual 82, 3) := by decide +kernel
theorem dX7_elementEnd_61 : decode cX7_elementEnd 61 = .ok (.istore_n 3, 1) := by decide +kernel
theorem dX7_elementEnd_62 : decode cX7_elementEnd 62 = .ok (.iload_n 3, 1) := by decide +kernel
theorem dX7_elementEnd_63 : decode cX7_elementEnd 63 = .ok (.iload_n 2, 1) := by decide +kernel
theorem dX7_elementEnd_64 : decode cX7_elementEnd 64 = .ok (.if_icmp .le 7, 3) := by decide +kernel
theorem dX7_elementEnd_67 : decode cX7_elementEnd 67 = .ok (.iload_n 3, 1) := by decide +kernel
theorem dX7_elementEnd_68 : decode cX7_elementEnd 68 = .ok (.goto 4, 3) := by decide +kernel
theorem dX7_elementEnd_71 : decode cX7_elementEnd 71 = .ok (.iconst (-1), 1) := by decide +kernel
theorem dX7_elementEnd_72 : decode cX7_elementEnd 72 = .ok (.ireturn, 1) := by decide +kernel
theorem dX7_elementEnd_73 : decode cX7_elementEnd 73 = .ok (.aload_n 0, 1) := by decide +kernel
theorem dX7_elementEnd_74 : decode cX7_elementEnd 74 = .ok (.iload_n 2, 1) := by decide +kernel
theorem dX7_elementEnd_75 : decode cX7_elementEnd 75 = .ok (.iload_n 1, 1) := by decide +kernel
theorem dX7_elementEnd_76 : decode cX7_elementEnd 76 = .ok (.iload_n 1, 1) := by decide +kernel
theorem dX7_elementEnd_77 : decode cX7_elementEnd 77 = .ok (.invokevirtual 75, 3) := by decide +kernel
theorem dX7_elementEnd_80 : decode cX7_elementEnd 80 = .ok (.ifCond .eq 9, 3) := by decide +kernel
theorem dX7_elementEnd_83 : decode cX7_elementEnd 83 = .ok (.iload_n 2, 1) := by decide +kernel
theorem dX7_elementEnd_84 : decode cX7_elementEnd 84 = .ok (.iconst 1, 1) := by decide +kernel
theorem dX7_elementEnd_85 : decode cX7_elementEnd 85 = .ok (.iadd, 1) := by decide +kernel
theorem dX7_elementEnd_86 : decode cX7_elementEnd 86 = .ok (.goto 4, 3) := by decide +kernel
theorem dX7_elementEnd_89 : decode cX7_elementEnd 89 = .ok (.iconst (-1), 1) := by decide +kernel
theorem dX7_elementEnd_90 : decode cX7_elementEnd 90 = .ok (.ireturn, 1) := by decide +kernel
theorem dX7_islandAt_0 : decode cX7_islandAt 0 = .ok (.iconst 0, 1) := by decide +kernel
theorem dX7_islandAt_1 : decode cX7_islandAt 1 = .ok (.istore_n 2, 1) := by decide +kernel
theorem dX7_islandAt_2 : decode cX7_islandAt 2 = .ok (.iload_n 2, 1) := by decide +kernel
theorem dX7_islandAt_3 : decode cX7_islandAt 3 = .ok (.bipush 6, 2) := by decide +kernel
theorem dX7_islandAt_5 : decode cX7_islandAt 5 = .ok (.if_icmp .ge 26, 3) := by decide +kernel
theorem dX7_islandAt_8 : decode cX7_islandAt 8 = .ok (.aload_n 0, 1) := by decide +kernel
theorem dX7_islandAt_9 : decode cX7_islandAt 9 = .ok (.getfield 22, 3) := by decide +kernel
theorem dX7_islandAt_12 : decode cX7_islandAt 12 = .ok (.iload_n 2, 1) := by decide +kernel
theorem dX7_islandAt_13 : decode cX7_islandAt 13 = .ok (.iconst 0, 1) := by decide +kernel
theorem dX7_islandAt_14 : decode cX7_islandAt 14 = .ok (.iload_n 1, 1) := by decide +kernel
theorem dX7_islandAt_15 : decode cX7_islandAt 15 = .ok (.invokestatic 78, 3) := by decide +kernel
theorem dX7_islandAt_18 : decode cX7_islandAt 18 = .ok (.iaload, 1) := by decide +kernel
theorem dX7_islandAt_19 : decode cX7_islandAt 19 = .ok (.iconst (-1), 1) := by decide +kernel
theorem dX7_islandAt_20 : decode cX7_islandAt 20 = .ok (.if_icmp .eq 5, 3) := by decide +kernel
theorem dX7_islandAt_23 : decode cX7_islandAt 23 = .ok (.iload_n 2, 1) := by decide +kernel
theorem dX7_islandAt_24 : decode cX7_islandAt 24 = .ok (.ireturn, 1) := by decide +kernel
theorem dX7_islandAt_25 : decode cX7_islandAt 25 = .ok (.iinc 2 1, 3) := by decide +kernel
theorem dX7_islandAt_28 : decode cX7_islandAt 28 = .ok (.goto (-26), 3) := by decide +kernel
theorem dX7_islandAt_31 : decode cX7_islandAt 31 = .ok (.iconst (-1), 1) := by decide +kernel
theorem dX7_islandAt_32 : decode cX7_islandAt 32 = .ok (.ireturn, 1) := by decide +kernel
theorem dX7_waterEnd_0 : decode cX7_waterEnd 0 = .ok (.aload_n 0, 1) := by decide +kernel
theorem dX7_waterEnd_1 : decode cX7_waterEnd 1 = .ok (.getfield 22, 3) := by decide +kernel
theorem dX7_waterEnd_4 : decode cX7_waterEnd 4 = .ok (.iload_n 1, 1) := by decide +kernel
theorem dX7_waterEnd_5 : decode cX7_waterEnd 5 = .ok (.iload_n 2, 1) := by decide +kernel
theorem dX7_waterEnd_6 : decode cX7_waterEnd 6 = .ok (.iconst 1, 1) := by decide +kernel
theorem dX7_waterEnd_7 : decode cX7_waterEnd 7 = .ok (.iadd, 1) := by decide +kernel
theorem dX7_waterEnd_8 : decode cX7_waterEnd 8 = .ok (.iload_n 3, 1) := by decide +kernel
theorem dX7_waterEnd_9 : decode cX7_waterEnd 9 = .ok (.invokestatic 78, 3) := by decide +kernel
theorem dX7_waterEnd_12 : decode cX7_waterEnd 12 = .ok (.iaload, 1) := by decide +kernel
theorem dX7_waterEnd_13 : decode cX7_waterEnd 13 = .ok (.istore 4, 2) := by decide +kernel
theorem dX7_waterEnd_15 : decode cX7_waterEnd 15 = .ok (.iload 4, 2) := by decide +kernel
theorem dX7_waterEnd_17 : decode cX7_waterEnd 17 = .ok (.iconst (-1), 1) := by decide +kernel
theorem dX7_waterEnd_18 : decode cX7_waterEnd 18 = .ok (.if_icmp .eq 6, 3) := by decide +kernel
theorem dX7_waterEnd_21 : decode cX7_waterEnd 21 = .ok (.iload 4, 2) := by decide +kernel
theorem dX7_waterEnd_23 : decode cX7_waterEnd 23 = .ok (.ireturn, 1) := by decide +kernel
theorem dX7_waterEnd_24 : decode cX7_waterEnd 24 = .ok (.aload_n 0, 1) := by decide +kernel
theorem dX7_waterEnd_25 : decode cX7_waterEnd 25 = .ok (.iload_n 3, 1) := by decide +kernel
theorem dX7_waterEnd_26 : decode cX7_waterEnd 26 = .ok (.invokevirtual 85, 3) := by decide +kernel
theorem dX7_waterEnd_29 : decode cX7_waterEnd 29 = .ok (.istore 5, 2) := by decide +kernel
theorem dX7_waterEnd_31 : decode cX7_waterEnd 31 = .ok (.iload 5, 2) := by decide +kernel
theorem dX7_waterEnd_33 : decode cX7_waterEnd 33 = .ok (.iconst (-1), 1) := by decide +kernel
theorem dX7_waterEnd_34 : decode cX7_waterEnd 34 = .ok (.if_icmp .eq 26, 3) := by decide +kernel
theorem dX7_waterEnd_37 : decode cX7_waterEnd 37 = .ok (.aload_n 0, 1) := by decide +kernel
theorem dX7_waterEnd_38 : decode cX7_waterEnd 38 = .ok (.getfield 22, 3) := by decide +kernel
theorem dX7_waterEnd_41 : decode cX7_waterEnd 41 = .ok (.iload_n 1, 1) := by decide +kernel
theorem dX7_waterEnd_42 : decode cX7_waterEnd 42 = .ok (.iload_n 2, 1) := by decide +kernel
theorem dX7_waterEnd_43 : decode cX7_waterEnd 43 = .ok (.aload_n 0, 1) := by decide +kernel
theorem dX7_waterEnd_44 : decode cX7_waterEnd 44 = .ok (.getfield 22, 3) := by decide +kernel
theorem dX7_waterEnd_47 : decode cX7_waterEnd 47 = .ok (.iload 5, 2) := by decide +kernel
theorem dX7_waterEnd_49 : decode cX7_waterEnd 49 = .ok (.iconst 0, 1) := by decide +kernel
theorem dX7_waterEnd_50 : decode cX7_waterEnd 50 = .ok (.iload_n 3, 1) := by decide +kernel
theorem dX7_waterEnd_51 : decode cX7_waterEnd 51 = .ok (.invokestatic 78, 3) := by decide +kernel
theorem dX7_waterEnd_54 : decode cX7_waterEnd 54 = .ok (.iaload, 1) := by decide +kernel
theorem dX7_waterEnd_55 : decode cX7_waterEnd 55 = .ok (.invokestatic 78, 3) := by decide +kernel
theorem dX7_waterEnd_58 : decode cX7_waterEnd 58 = .ok (.iaload, 1) := by decide +kernel
theorem dX7_waterEnd_59 : decode cX7_waterEnd 59 = .ok (.ireturn, 1) := by decide +kernel
theorem dX7_waterEnd_60 : decode cX7_waterEnd 60 = .ok (.iload_n 3, 1) := by decide +kernel
theorem dX7_waterEnd_61 : decode cX7_waterEnd 61 = .ok (.aload_n 0, 1) := by decide +kernel
theorem dX7_waterEnd_62 : decode cX7_waterEnd 62 = .ok (.getfield 7, 3) := by decide +kernel
theorem dX7_waterEnd_65 : decode cX7_waterEnd 65 = .ok (.iconst 0, 1) := by decide +kernel
theorem dX7_waterEnd_66 : decode cX7_waterEnd 66 = .ok (.iaload, 1) := by decide +kernel
theorem dX7_waterEnd_67 : decode cX7_waterEnd 67 = .ok (.if_icmp .eq 24, 3) := by decide +kernel
theorem dX7_waterEnd_70 : decode cX7_waterEnd 70 = .ok (.aload_n 0, 1) := by decide +kernel
theorem dX7_waterEnd_71 : decode cX7_waterEnd 71 = .ok (.getfield 7, 3) := by decide +kernel
theorem dX7_waterEnd_74 : decode cX7_waterEnd 74 = .ok (.iconst 1, 1) := by decide +kernel
theorem dX7_waterEnd_75 : decode cX7_waterEnd 75 = .ok (.iload_n 3, 1) := by decide +kernel
theorem dX7_waterEnd_76 : decode cX7_waterEnd 76 = .ok (.iadd, 1) := by decide +kernel
theorem dX7_waterEnd_77 : decode cX7_waterEnd 77 = .ok (.iaload, 1) := by decide +kernel
theorem dX7_waterEnd_78 : decode cX7_waterEnd 78 = .ok (.aload_n 0, 1) := by decide +kernel
theorem dX7_waterEnd_79 : decode cX7_waterEnd 79 = .ok (.getfield 7, 3) := by decide +kernel
theorem dX7_waterEnd_82 : decode cX7_waterEnd 82 = .ok (.sipush 155, 3) := by decide +kernel
theorem dX7_waterEnd_85 : decode cX7_waterEnd 85 = .ok (.iload_n 1, 1) := by decide +kernel
theorem dX7_waterEnd_86 : decode cX7_waterEnd 86 = .ok (.iadd, 1) := by decide +kernel
theorem dX7_waterEnd_87 : decode cX7_waterEnd 87 = .ok (.iaload, 1) := by decide +kernel
theorem dX7_waterEnd_88 : decode cX7_waterEnd 88 = .ok (.if_icmp .ne 7, 3) := by decide +kernel
theorem dX7_waterEnd_91 : decode cX7_waterEnd 91 = .ok (.iconst 1, 1) := by decide +kernel
theorem dX7_waterEnd_92 : decode cX7_waterEnd 92 = .ok (.goto 4, 3) := by decide +kernel
theorem dX7_waterEnd_95 : decode cX7_waterEnd 95 = .ok (.iconst 0, 1) := by decide +kernel
theorem dX7_waterEnd_96 : decode cX7_waterEnd 96 = .ok (.istore 6, 2) := by decide +kernel
theorem dX7_waterEnd_98 : decode cX7_waterEnd 98 = .ok (.iload 6, 2) := by decide +kernel
theorem dX7_waterEnd_100 : decode cX7_waterEnd 100 = .ok (.ifCond .eq 7, 3) := by decide +kernel
theorem dX7_waterEnd_103 : decode cX7_waterEnd 103 = .ok (.iconst (-1), 1) := by decide +kernel
theorem dX7_waterEnd_104 : decode cX7_waterEnd 104 = .ok (.goto 16, 3) := by decide +kernel
theorem dX7_waterEnd_107 : decode cX7_waterEnd 107 = .ok (.aload_n 0, 1) := by decide +kernel
theorem dX7_waterEnd_108 : decode cX7_waterEnd 108 = .ok (.getfield 22, 3) := by decide +kernel
theorem dX7_waterEnd_111 : decode cX7_waterEnd 111 = .ok (.iload_n 1, 1) := by decide +kernel
theorem dX7_waterEnd_112 : decode cX7_waterEnd 112 = .ok (.iload_n 2, 1) := by decide +kernel
theorem dX7_waterEnd_113 : decode cX7_waterEnd 113 = .ok (.iload_n 3, 1) := by decide +kernel
theorem dX7_waterEnd_114 : decode cX7_waterEnd 114 = .ok (.iconst 1, 1) := by decide +kernel
theorem dX7_waterEnd_115 : decode cX7_waterEnd 115 = .ok (.iadd, 1) := by decide +kernel
theorem dX7_waterEnd_116 : decode cX7_waterEnd 116 = .ok (.invokestatic 78, 3) := by decide +kernel
theorem dX7_waterEnd_119 : decode cX7_waterEnd 119 = .ok (.iaload, 1) := by decide +kernel
theorem dX7_waterEnd_120 : decode cX7_waterEnd 120 = .ok (.ireturn, 1) := by decide +kernel
theorem dX7_suffixEnd_0 : decode cX7_suffixEnd 0 = .ok (.iload_n 2, 1) := by decide +kernel
theorem dX7_suffixEnd_1 : decode cX7_suffixEnd 1 = .ok (.aload_n 0, 1) := by decide +kernel
theorem dX7_suffixEnd_2 : decode cX7_suffixEnd 2 = .ok (.getfield 7, 3) := by decide +kernel
theorem dX7_suffixEnd_5 : decode cX7_suffixEnd 5 = .ok (.bipush 101, 2) := by decide +kernel
theorem dX7_suffixEnd_7 : decode cX7_suffixEnd 7 = .ok (.iload_n 1, 1) := by decide +kernel
theorem dX7_suffixEnd_8 : decode cX7_suffixEnd 8 = .ok (.iadd, 1) := by decide +kernel
theorem dX7_suffixEnd_9 : decode cX7_suffixEnd 9 = .ok (.iaload, 1) := by decide +kernel
theorem dX7_suffixEnd_10 : decode cX7_suffixEnd 10 = .ok (.if_icmp .ne 13, 3) := by decide +kernel
theorem dX7_suffixEnd_13 : decode cX7_suffixEnd 13 = .ok (.iload_n 2, 1) := by decide +kernel
theorem dX7_suffixEnd_14 : decode cX7_suffixEnd 14 = .ok (.ifCond .ne 7, 3) := by decide +kernel
theorem dX7_suffixEnd_17 : decode cX7_suffixEnd 17 = .ok (.iconst (-1), 1) := by decide +kernel
theorem dX7_suffixEnd_18 : decode cX7_suffixEnd 18 = .ok (.goto 4, 3) := by decide +kernel
theorem dX7_suffixEnd_21 : decode cX7_suffixEnd 21 = .ok (.iload_n 3, 1) := by decide +kernel
theorem dX7_suffixEnd_22 : decode cX7_suffixEnd 22 = .ok (.ireturn, 1) := by decide +kernel
theorem dX7_suffixEnd_23 : decode cX7_suffixEnd 23 = .ok (.aload_n 0, 1) := by decide +kernel
theorem dX7_suffixEnd_24 : decode cX7_suffixEnd 24 = .ok (.iload_n 1, 1) := by decide +kernel
theorem dX7_suffixEnd_25 : decode cX7_suffixEnd 25 = .ok (.iload_n 2, 1) := by decide +kernel
theorem dX7_suffixEnd_26 : decode cX7_suffixEnd 26 = .ok (.invokevirtual 71, 3) := by decide +kernel
theorem dX7_suffixEnd_29 : decode cX7_suffixEnd 29 = .ok (.istore 4, 2) := by decide +kernel
theorem dX7_suffixEnd_31 : decode cX7_suffixEnd 31 = .ok (.iload 4, 2) := by decide +kernel
theorem dX7_suffixEnd_33 : decode cX7_suffixEnd 33 = .ok (.bipush 126, 2) := by decide +kernel
theorem dX7_suffixEnd_35 : decode cX7_suffixEnd 35 = .ok (.if_icmp .ne 11, 3) := by decide +kernel
theorem dX7_suffixEnd_38 : decode cX7_suffixEnd 38 = .ok (.aload_n 0, 1) := by decide +kernel
theorem dX7_suffixEnd_39 : decode cX7_suffixEnd 39 = .ok (.iload_n 1, 1) := by decide +kernel
theorem dX7_suffixEnd_40 : decode cX7_suffixEnd 40 = .ok (.iload_n 2, 1) := by decide +kernel
theorem dX7_suffixEnd_41 : decode cX7_suffixEnd 41 = .ok (.iload_n 3, 1) := by decide +kernel
theorem dX7_suffixEnd_42 : decode cX7_suffixEnd 42 = .ok (.invokevirtual 88, 3) := by decide +kernel
theorem dX7_suffixEnd_45 : decode cX7_suffixEnd 45 = .ok (.ireturn, 1) := by decide +kernel
theorem dX7_suffixEnd_46 : decode cX7_suffixEnd 46 = .ok (.aload_n 0, 1) := by decide +kernel
theorem dX7_suffixEnd_47 : decode cX7_suffixEnd 47 = .ok (.iload 4, 2) := by decide +kernel
theorem dX7_suffixEnd_49 : decode cX7_suffixEnd 49 = .ok (.iload_n 3, 1) := by decide +kernel
theorem dX7_suffixEnd_50 : decode cX7_suffixEnd 50 = .ok (.invokevirtual 91, 3) := by decide +kernel
theorem dX7_suffixEnd_53 : decode cX7_suffixEnd 53 = .ok (.istore 5, 2) := by decide +kernel
theorem dX7_suffixEnd_55 : decode cX7_suffixEnd 55 = .ok (.iload 5, 2) := by decide +kernel
theorem dX7_suffixEnd_57 : decode cX7_suffixEnd 57 = .ok (.iconst (-1), 1) := by decide +kernel
theorem dX7_suffixEnd_58 : decode cX7_suffixEnd 58 = .ok (.if_icmp .ne 7, 3) := by decide +kernel
theorem dX7_suffixEnd_61 : decode cX7_suffixEnd 61 = .ok (.iconst (-1), 1) := by decide +kernel
theorem dX7_suffixEnd_62 : decode cX7_suffixEnd 62 = .ok (.goto 17, 3) := by decide +kernel
theorem dX7_suffixEnd_65 : decode cX7_suffixEnd 65 = .ok (.aload_n 0, 1) := by decide +kernel
theorem dX7_suffixEnd_66 : decode cX7_suffixEnd 66 = .ok (.getfield 22, 3) := by decide +kernel
theorem dX7_suffixEnd_69 : decode cX7_suffixEnd 69 = .ok (.iload_n 1, 1) := by decide +kernel
theorem dX7_suffixEnd_70 : decode cX7_suffixEnd 70 = .ok (.iload_n 2, 1) := by decide +kernel
theorem dX7_suffixEnd_71 : decode cX7_suffixEnd 71 = .ok (.iconst 1, 1) := by decide +kernel
theorem dX7_suffixEnd_72 : decode cX7_suffixEnd 72 = .ok (.iadd, 1) := by decide +kernel
theorem dX7_suffixEnd_73 : decode cX7_suffixEnd 73 = .ok (.iload 5, 2) := by decide +kernel
theorem dX7_suffixEnd_75 : decode cX7_suffixEnd 75 = .ok (.invokestatic 78, 3) := by decide +kernel
theorem dX7_suffixEnd_78 : decode cX7_suffixEnd 78 = .ok (.iaload, 1) := by decide +kernel
theorem dX7_suffixEnd_79 : decode cX7_suffixEnd 79 = .ok (.ireturn, 1) := by decide +kernel
theorem dX7_findEnds_0 : decode cX7_findEnds 0 = .ok (.aload_n 0, 1) := by decide +kernel
theorem dX7_findEnds_1 : decode cX7_findEnds 1 = .ok (.getfield 7, 3) := by decide +kernel
theorem dX7_findEnds_4 : decode cX7_findEnds 4 = .ok (.iconst 0, 1) := by decide +kernel
theorem dX7_findEnds_5 : decode cX7_findEnds 5 = .ok (.iaload, 1) := by decide +kernel
theorem dX7_findEnds_6 : decode cX7_findEnds 6 = .ok (.istore_n 1, 1) := by decide +kernel
theorem dX7_findEnds_7 : decode cX7_findEnds 7 = .ok (.iload_n 1, 1) := by decide +kernel
theorem dX7_findEnds_8 : decode cX7_findEnds 8 = .ok (.ifCond .lt 93, 3) := by decide +kernel
theorem dX7_findEnds_11 : decode cX7_findEnds 11 = .ok (.iconst 0, 1) := by decide +kernel
theorem dX7_findEnds_12 : decode cX7_findEnds 12 = .ok (.istore_n 2, 1) := by decide +kernel
theorem dX7_findEnds_13 : decode cX7_findEnds 13 = .ok (.iload_n 2, 1) := by decide +kernel
theorem dX7_findEnds_14 : decode cX7_findEnds 14 = .ok (.bipush 6, 2) := by decide +kernel
theorem dX7_findEnds_16 : decode cX7_findEnds 16 = .ok (.if_icmp .ge 27, 3) := by decide +kernel
theorem dX7_findEnds_19 : decode cX7_findEnds 19 = .ok (.aload_n 0, 1) := by decide +kernel
theorem dX7_findEnds_20 : decode cX7_findEnds 20 = .ok (.getfield 22, 3) := by decide +kernel
theorem dX7_findEnds_23 : decode cX7_findEnds 23 = .ok (.iload_n 2, 1) := by decide +kernel
theorem dX7_findEnds_24 : decode cX7_findEnds 24 = .ok (.iconst 0, 1) := by decide +kernel
theorem dX7_findEnds_25 : decode cX7_findEnds 25 = .ok (.iload_n 1, 1) := by decide +kernel
theorem dX7_findEnds_26 : decode cX7_findEnds 26 = .ok (.invokestatic 78, 3) := by decide +kernel
theorem dX7_findEnds_29 : decode cX7_findEnds 29 = .ok (.aload_n 0, 1) := by decide +kernel
theorem dX7_findEnds_30 : decode cX7_findEnds 30 = .ok (.iload_n 2, 1) := by decide +kernel
theorem dX7_findEnds_31 : decode cX7_findEnds 31 = .ok (.iconst 0, 1) := by decide +kernel
theorem dX7_findEnds_32 : decode cX7_findEnds 32 = .ok (.iload_n 1, 1) := by decide +kernel
theorem dX7_findEnds_33 : decode cX7_findEnds 33 = .ok (.invokevirtual 94, 3) := by decide +kernel
theorem dX7_findEnds_36 : decode cX7_findEnds 36 = .ok (.iastore, 1) := by decide +kernel
theorem dX7_findEnds_37 : decode cX7_findEnds 37 = .ok (.iinc 2 1, 3) := by decide +kernel
theorem dX7_findEnds_40 : decode cX7_findEnds 40 = .ok (.goto (-27), 3) := by decide +kernel
theorem dX7_findEnds_43 : decode cX7_findEnds 43 = .ok (.iconst 0, 1) := by decide +kernel
theorem dX7_findEnds_44 : decode cX7_findEnds 44 = .ok (.istore_n 2, 1) := by decide +kernel
theorem dX7_findEnds_45 : decode cX7_findEnds 45 = .ok (.iload_n 2, 1) := by decide +kernel
theorem dX7_findEnds_46 : decode cX7_findEnds 46 = .ok (.bipush 6, 2) := by decide +kernel
theorem dX7_findEnds_48 : decode cX7_findEnds 48 = .ok (.if_icmp .ge 47, 3) := by decide +kernel
theorem dX7_findEnds_51 : decode cX7_findEnds 51 = .ok (.aload_n 0, 1) := by decide +kernel
theorem dX7_findEnds_52 : decode cX7_findEnds 52 = .ok (.getfield 7, 3) := by decide +kernel
theorem dX7_findEnds_55 : decode cX7_findEnds 55 = .ok (.bipush 101, 2) := by decide +kernel
theorem dX7_findEnds_57 : decode cX7_findEnds 57 = .ok (.iload_n 2, 1) := by decide +kernel
theorem dX7_findEnds_58 : decode cX7_findEnds 58 = .ok (.iadd, 1) := by decide +kernel
theorem dX7_findEnds_59 : decode cX7_findEnds 59 = .ok (.iaload, 1) := by decide +kernel
theorem dX7_findEnds_60 : decode cX7_findEnds 60 = .ok (.istore_n 3, 1) := by decide +kernel
theorem dX7_findEnds_61 : decode cX7_findEnds 61 = .ok (.iload_n 3, 1) := by decide +kernel
theorem dX7_findEnds_62 : decode cX7_findEnds 62 = .ok (.ifCond .le 27, 3) := by decide +kernel
theorem dX7_findEnds_65 : decode cX7_findEnds 65 = .ok (.aload_n 0, 1) := by decide +kernel
theorem dX7_findEnds_66 : decode cX7_findEnds 66 = .ok (.getfield 22, 3) := by decide +kernel
theorem dX7_findEnds_69 : decode cX7_findEnds 69 = .ok (.iload_n 2, 1) := by decide +kernel
theorem dX7_findEnds_70 : decode cX7_findEnds 70 = .ok (.iload_n 3, 1) := by decide +kernel
theorem dX7_findEnds_71 : decode cX7_findEnds 71 = .ok (.iload_n 1, 1) := by decide +kernel
theorem dX7_findEnds_72 : decode cX7_findEnds 72 = .ok (.invokestatic 78, 3) := by decide +kernel
theorem dX7_findEnds_75 : decode cX7_findEnds 75 = .ok (.aload_n 0, 1) := by decide +kernel
theorem dX7_findEnds_76 : decode cX7_findEnds 76 = .ok (.iload_n 2, 1) := by decide +kernel
theorem dX7_findEnds_77 : decode cX7_findEnds 77 = .ok (.iload_n 3, 1) := by decide +kernel
theorem dX7_findEnds_78 : decode cX7_findEnds 78 = .ok (.iload_n 1, 1) := by decide +kernel
theorem dX7_findEnds_79 : decode cX7_findEnds 79 = .ok (.invokevirtual 94, 3) := by decide +kernel
theorem dX7_findEnds_82 : decode cX7_findEnds 82 = .ok (.iastore, 1) := by decide +kernel
theorem dX7_findEnds_83 : decode cX7_findEnds 83 = .ok (.iinc 3 (-1), 3) := by decide +kernel
theorem dX7_findEnds_86 : decode cX7_findEnds 86 = .ok (.goto (-25), 3) := by decide +kernel
theorem dX7_findEnds_89 : decode cX7_findEnds 89 = .ok (.iinc 2 1, 3) := by decide +kernel
theorem dX7_findEnds_92 : decode cX7_findEnds 92 = .ok (.goto (-47), 3) := by decide +kernel
theorem dX7_findEnds_95 : decode cX7_findEnds 95 = .ok (.iinc 1 (-1), 3) := by decide +kernel
theorem dX7_findEnds_98 : decode cX7_findEnds 98 = .ok (.goto (-91), 3) := by decide +kernel
theorem dX7_findEnds_101 : decode cX7_findEnds 101 = .ok (.return_, 1) := by decide +kernel
theorem dX7_matchEnd_0 : decode cX7_matchEnd 0 = .ok (.iload_n 1, 1) := by decide +kernel
theorem dX7_matchEnd_1 : decode cX7_matchEnd 1 = .ok (.invokestatic 65, 3) := by decide +kernel
theorem dX7_matchEnd_4 : decode cX7_matchEnd 4 = .ok (.ifCond .eq 17, 3) := by decide +kernel
theorem dX7_matchEnd_7 : decode cX7_matchEnd 7 = .ok (.iload_n 2, 1) := by decide +kernel
theorem dX7_matchEnd_8 : decode cX7_matchEnd 8 = .ok (.iconst 0, 1) := by decide +kernel
theorem dX7_matchEnd_9 : decode cX7_matchEnd 9 = .ok (.aload_n 0, 1) := by decide +kernel
theorem dX7_matchEnd_10 : decode cX7_matchEnd 10 = .ok (.getfield 7, 3) := by decide +kernel
theorem dX7_matchEnd_13 : decode cX7_matchEnd 13 = .ok (.iconst 0, 1) := by decide +kernel
theorem dX7_matchEnd_14 : decode cX7_matchEnd 14 = .ok (.iaload, 1) := by decide +kernel
theorem dX7_matchEnd_15 : decode cX7_matchEnd 15 = .ok (.invokestatic 44, 3) := by decide +kernel
theorem dX7_matchEnd_18 : decode cX7_matchEnd 18 = .ok (.ifCond .ne 10, 3) := by decide +kernel
theorem dX7_matchEnd_21 : decode cX7_matchEnd 21 = .ok (.aload_n 0, 1) := by decide +kernel
theorem dX7_matchEnd_22 : decode cX7_matchEnd 22 = .ok (.bipush (-2), 2) := by decide +kernel
theorem dX7_matchEnd_24 : decode cX7_matchEnd 24 = .ok (.invokevirtual 52, 3) := by decide +kernel
theorem dX7_matchEnd_27 : decode cX7_matchEnd 27 = .ok (.ireturn, 1) := by decide +kernel
theorem dX7_matchEnd_28 : decode cX7_matchEnd 28 = .ok (.aload_n 0, 1) := by decide +kernel
theorem dX7_matchEnd_29 : decode cX7_matchEnd 29 = .ok (.invokevirtual 97, 3) := by decide +kernel
theorem dX7_matchEnd_32 : decode cX7_matchEnd 32 = .ok (.aload_n 0, 1) := by decide +kernel
theorem dX7_matchEnd_33 : decode cX7_matchEnd 33 = .ok (.getfield 22, 3) := by decide +kernel
theorem dX7_matchEnd_36 : decode cX7_matchEnd 36 = .ok (.iload_n 1, 1) := by decide +kernel
theorem dX7_matchEnd_37 : decode cX7_matchEnd 37 = .ok (.iconst 0, 1) := by decide +kernel
theorem dX7_matchEnd_38 : decode cX7_matchEnd 38 = .ok (.iload_n 2, 1) := by decide +kernel
theorem dX7_matchEnd_39 : decode cX7_matchEnd 39 = .ok (.invokestatic 78, 3) := by decide +kernel
theorem dX7_matchEnd_42 : decode cX7_matchEnd 42 = .ok (.iaload, 1) := by decide +kernel
theorem dX7_matchEnd_43 : decode cX7_matchEnd 43 = .ok (.ireturn, 1) := by decide +kernel
theorem dX7_addNode_0 : decode cX7_addNode 0 = .ok (.aload_n 0, 1) := by decide +kernel
theorem dX7_addNode_1 : decode cX7_addNode 1 = .ok (.getfield 25, 3) := by decide +kernel
theorem dX7_addNode_4 : decode cX7_addNode 4 = .ok (.aload_n 0, 1) := by decide +kernel
theorem dX7_addNode_5 : decode cX7_addNode 5 = .ok (.getfield 100, 3) := by decide +kernel
theorem dX7_addNode_8 : decode cX7_addNode 8 = .ok (.iload_n 1, 1) := by decide +kernel
theorem dX7_addNode_9 : decode cX7_addNode 9 = .ok (.iastore, 1) := by decide +kernel
theorem dX7_addNode_10 : decode cX7_addNode 10 = .ok (.aload_n 0, 1) := by decide +kernel
theorem dX7_addNode_11 : decode cX7_addNode 11 = .ok (.getfield 28, 3) := by decide +kernel
theorem dX7_addNode_14 : decode cX7_addNode 14 = .ok (.aload_n 0, 1) := by decide +kernel
theorem dX7_addNode_15 : decode cX7_addNode 15 = .ok (.getfield 100, 3) := by decide +kernel
theorem dX7_addNode_18 : decode cX7_addNode 18 = .ok (.iload_n 2, 1) := by decide +kernel
theorem dX7_addNode_19 : decode cX7_addNode 19 = .ok (.iastore, 1) := by decide +kernel
theorem dX7_addNode_20 : decode cX7_addNode 20 = .ok (.aload_n 0, 1) := by decide +kernel
theorem dX7_addNode_21 : decode cX7_addNode 21 = .ok (.getfield 31, 3) := by decide +kernel
theorem dX7_addNode_24 : decode cX7_addNode 24 = .ok (.aload_n 0, 1) := by decide +kernel
theorem dX7_addNode_25 : decode cX7_addNode 25 = .ok (.getfield 100, 3) := by decide +kernel
theorem dX7_addNode_28 : decode cX7_addNode 28 = .ok (.iload_n 3, 1) := by decide +kernel
theorem dX7_addNode_29 : decode cX7_addNode 29 = .ok (.iastore, 1) := by decide +kernel
theorem dX7_addNode_30 : decode cX7_addNode 30 = .ok (.aload_n 0, 1) := by decide +kernel
theorem dX7_addNode_31 : decode cX7_addNode 31 = .ok (.getfield 34, 3) := by decide +kernel
theorem dX7_addNode_34 : decode cX7_addNode 34 = .ok (.aload_n 0, 1) := by decide +kernel
theorem dX7_addNode_35 : decode cX7_addNode 35 = .ok (.getfield 100, 3) := by decide +kernel
theorem dX7_addNode_38 : decode cX7_addNode 38 = .ok (.iconst 0, 1) := by decide +kernel
theorem dX7_addNode_39 : decode cX7_addNode 39 = .ok (.iastore, 1) := by decide +kernel
theorem dX7_addNode_40 : decode cX7_addNode 40 = .ok (.aload_n 0, 1) := by decide +kernel
theorem dX7_addNode_41 : decode cX7_addNode 41 = .ok (.getfield 37, 3) := by decide +kernel
theorem dX7_addNode_44 : decode cX7_addNode 44 = .ok (.aload_n 0, 1) := by decide +kernel
theorem dX7_addNode_45 : decode cX7_addNode 45 = .ok (.getfield 100, 3) := by decide +kernel
theorem dX7_addNode_48 : decode cX7_addNode 48 = .ok (.iconst (-1), 1) := by decide +kernel
theorem dX7_addNode_49 : decode cX7_addNode 49 = .ok (.iastore, 1) := by decide +kernel
theorem dX7_addNode_50 : decode cX7_addNode 50 = .ok (.aload_n 0, 1) := by decide +kernel
theorem dX7_addNode_51 : decode cX7_addNode 51 = .ok (.dup, 1) := by decide +kernel
theorem dX7_addNode_52 : decode cX7_addNode 52 = .ok (.getfield 100, 3) := by decide +kernel
theorem dX7_addNode_55 : decode cX7_addNode 55 = .ok (.iconst 1, 1) := by decide +kernel
theorem dX7_addNode_56 : decode cX7_addNode 56 = .ok (.iadd, 1) := by decide +kernel
theorem dX7_addNode_57 : decode cX7_addNode 57 = .ok (.putfield 100, 3) := by decide +kernel
theorem dX7_addNode_60 : decode cX7_addNode 60 = .ok (.return_, 1) := by decide +kernel
theorem dX7_endOf_0 : decode cX7_endOf 0 = .ok (.aload_n 0, 1) := by decide +kernel
theorem dX7_endOf_1 : decode cX7_endOf 1 = .ok (.getfield 22, 3) := by decide +kernel
theorem dX7_endOf_4 : decode cX7_endOf 4 = .ok (.aload_n 0, 1) := by decide +kernel
theorem dX7_endOf_5 : decode cX7_endOf 5 = .ok (.getfield 25, 3) := by decide +kernel
theorem dX7_endOf_8 : decode cX7_endOf 8 = .ok (.iload_n 1, 1) := by decide +kernel
theorem dX7_endOf_9 : decode cX7_endOf 9 = .ok (.iaload, 1) := by decide +kernel
theorem dX7_endOf_10 : decode cX7_endOf 10 = .ok (.iconst 0, 1) := by decide +kernel
theorem dX7_endOf_11 : decode cX7_endOf 11 = .ok (.aload_n 0, 1) := by decide +kernel
theorem dX7_endOf_12 : decode cX7_endOf 12 = .ok (.getfield 28, 3) := by decide +kernel
theorem dX7_endOf_15 : decode cX7_endOf 15 = .ok (.iload_n 1, 1) := by decide +kernel
theorem dX7_endOf_16 : decode cX7_endOf 16 = .ok (.iaload, 1) := by decide +kernel
theorem dX7_endOf_17 : decode cX7_endOf 17 = .ok (.invokestatic 78, 3) := by decide +kernel
theorem dX7_endOf_20 : decode cX7_endOf 20 = .ok (.iaload, 1) := by decide +kernel
theorem dX7_endOf_21 : decode cX7_endOf 21 = .ok (.ireturn, 1) := by decide +kernel
theorem dX7_numberAt_0 : decode cX7_numberAt 0 = .ok (.iconst 0, 1) := by decide +kernel
theorem dX7_numberAt_1 : decode cX7_numberAt 1 = .ok (.istore_n 2, 1) := by decide +kernel
theorem dX7_numberAt_2 : decode cX7_numberAt 2 = .ok (.iload_n 1, 1) := by decide +kernel
theorem dX7_numberAt_3 : decode cX7_numberAt 3 = .ok (.istore_n 3, 1) := by decide +kernel
theorem dX7_numberAt_4 : decode cX7_numberAt 4 = .ok (.aload_n 0, 1) := by decide +kernel
theorem dX7_numberAt_5 : decode cX7_numberAt 5 = .ok (.iload_n 3, 1) := by decide +kernel
theorem dX7_numberAt_6 : decode cX7_numberAt 6 = .ok (.bipush 48, 2) := by decide +kernel
theorem dX7_numberAt_8 : decode cX7_numberAt 8 = .ok (.bipush 57, 2) := by decide +kernel
theorem dX7_numberAt_10 : decode cX7_numberAt 10 = .ok (.invokevirtual 75, 3) := by decide +kernel
theorem dX7_numberAt_13 : decode cX7_numberAt 13 = .ok (.ifCond .eq 29, 3) := by decide +kernel
theorem dX7_numberAt_16 : decode cX7_numberAt 16 = .ok (.bipush 10, 2) := by decide +kernel
theorem dX7_numberAt_18 : decode cX7_numberAt 18 = .ok (.iload_n 2, 1) := by decide +kernel
theorem dX7_numberAt_19 : decode cX7_numberAt 19 = .ok (.imul, 1) := by decide +kernel
theorem dX7_numberAt_20 : decode cX7_numberAt 20 = .ok (.aload_n 0, 1) := by decide +kernel
theorem dX7_numberAt_21 : decode cX7_numberAt 21 = .ok (.getfield 7, 3) := by decide +kernel
theorem dX7_numberAt_24 : decode cX7_numberAt 24 = .ok (.iconst 1, 1) := by decide +kernel
theorem dX7_numberAt_25 : decode cX7_numberAt 25 = .ok (.iload_n 3, 1) := by decide +kernel
theorem dX7_numberAt_26 : decode cX7_numberAt 26 = .ok (.iadd, 1) := by decide +kernel
theorem dX7_numberAt_27 : decode cX7_numberAt 27 = .ok (.iaload, 1) := by decide +kernel
theorem dX7_numberAt_28 : decode cX7_numberAt 28 = .ok (.iadd, 1) := by decide +kernel
theorem dX7_numberAt_29 : decode cX7_numberAt 29 = .ok (.bipush 48, 2) := by decide +kernel
theorem dX7_numberAt_31 : decode cX7_numberAt 31 = .ok (.isub, 1) := by decide +kernel
theorem dX7_numberAt_32 : decode cX7_numberAt 32 = .ok (.ldc 103, 2) := by decide +kernel
theorem dX7_numberAt_34 : decode cX7_numberAt 34 = .ok (.irem, 1) := by decide +kernel
theorem dX7_numberAt_35 : decode cX7_numberAt 35 = .ok (.istore_n 2, 1) := by decide +kernel
theorem dX7_numberAt_36 : decode cX7_numberAt 36 = .ok (.iinc 3 1, 3) := by decide +kernel
theorem dX7_numberAt_39 : decode cX7_numberAt 39 = .ok (.goto (-35), 3) := by decide +kernel
theorem dX7_numberAt_42 : decode cX7_numberAt 42 = .ok (.iload_n 2, 1) := by decide +kernel
theorem dX7_numberAt_43 : decode cX7_numberAt 43 = .ok (.ireturn, 1) := by decide +kernel
theorem dX7_followWater_0 : decode cX7_followWater 0 = .ok (.iload_n 3, 1) := by decide +kernel
theorem dX7_followWater_1 : decode cX7_followWater 1 = .ok (.istore 4, 2) := by decide +kernel
theorem dX7_followWater_3 : decode cX7_followWater 3 = .ok (.aload_n 0, 1) := by decide +kernel
theorem dX7_followWater_4 : decode cX7_followWater 4 = .ok (.getfield 22, 3) := by decide +kernel
theorem dX7_followWater_7 : decode cX7_followWater 7 = .ok (.aload_n 0, 1) := by decide +kernel
theorem dX7_followWater_8 : decode cX7_followWater 8 = .ok (.getfield 25, 3) := by decide +kernel
theorem dX7_followWater_11 : decode cX7_followWater 11 = .ok (.iload_n 1, 1) := by decide +kernel
theorem dX7_followWater_12 : decode cX7_followWater 12 = .ok (.iaload, 1) := by decide +kernel
theorem dX7_followWater_13 : decode cX7_followWater 13 = .ok (.iload_n 2, 1) := by decide +kernel
theorem dX7_followWater_14 : decode cX7_followWater 14 = .ok (.iconst 1, 1) := by decide +kernel
theorem dX7_followWater_15 : decode cX7_followWater 15 = .ok (.iadd, 1) := by decide +kernel
theorem dX7_followWater_16 : decode cX7_followWater 16 = .ok (.iload 4, 2) := by decide +kernel
theorem dX7_followWater_18 : decode cX7_followWater 18 = .ok (.invokestatic 78, 3) := by decide +kernel
theorem dX7_followWater_21 : decode cX7_followWater 21 = .ok (.iaload, 1) := by decide +kernel
theorem dX7_followWater_22 : decode cX7_followWater 22 = .ok (.iconst (-1), 1) := by decide +kernel
theorem dX7_followWater_23 : decode cX7_followWater 23 = .ok (.if_icmp .ne 60, 3) := by decide +kernel
theorem dX7_followWater_26 : decode cX7_followWater 26 = .ok (.aload_n 0, 1) := by decide +kernel
theorem dX7_followWater_27 : decode cX7_followWater 27 = .ok (.iload 4, 2) := by decide +kernel
theorem dX7_followWater_29 : decode cX7_followWater 29 = .ok (.invokevirtual 85, 3) := by decide +kernel
theorem dX7_followWater_32 : decode cX7_followWater 32 = .ok (.istore 5, 2) := by decide +kernel
theorem dX7_followWater_34 : decode cX7_followWater 34 = .ok (.iload 5, 2) := by decide +kernel
theorem dX7_followWater_36 : decode cX7_followWater 36 = .ok (.iconst (-1), 1) := by decide +kernel
theorem dX7_followWater_37 : decode cX7_followWater 37 = .ok (.if_icmp .eq 30, 3) := by decide +kernel
theorem dX7_followWater_40 : decode cX7_followWater 40 = .ok (.aload_n 0, 1) := by decide +kernel
theorem dX7_followWater_41 : decode cX7_followWater 41 = .ok (.iload 5, 2) := by decide +kernel
theorem dX7_followWater_43 : decode cX7_followWater 43 = .ok (.iload 4, 2) := by decide +kernel
theorem dX7_followWater_45 : decode cX7_followWater 45 = .ok (.iload_n 1, 1) := by decide +kernel
theorem dX7_followWater_46 : decode cX7_followWater 46 = .ok (.invokevirtual 104, 3) := by decide +kernel
theorem dX7_followWater_49 : decode cX7_followWater 49 = .ok (.aload_n 0, 1) := by decide +kernel
theorem dX7_followWater_50 : decode cX7_followWater 50 = .ok (.getfield 22, 3) := by decide +kernel
theorem dX7_followWater_53 : decode cX7_followWater 53 = .ok (.iload 5, 2) := by decide +kernel
theorem dX7_followWater_55 : decode cX7_followWater 55 = .ok (.iconst 0, 1) := by decide +kernel
theorem dX7_followWater_56 : decode cX7_followWater 56 = .ok (.iload 4, 2) := by decide +kernel
theorem dX7_followWater_58 : decode cX7_followWater 58 = .ok (.invokestatic 78, 3) := by decide +kernel
theorem dX7_followWater_61 : decode cX7_followWater 61 = .ok (.iaload, 1) := by decide +kernel
theorem dX7_followWater_62 : decode cX7_followWater 62 = .ok (.istore 4, 2) := by decide +kernel
theorem dX7_followWater_64 : decode cX7_followWater 64 = .ok (.goto 16, 3) := by decide +kernel
theorem dX7_followWater_67 : decode cX7_followWater 67 = .ok (.aload_n 0, 1) := by decide +kernel
theorem dX7_followWater_68 : decode cX7_followWater 68 = .ok (.getfield 34, 3) := by decide +kernel
theorem dX7_followWater_71 : decode cX7_followWater 71 = .ok (.iload_n 1, 1) := by decide +kernel
theorem dX7_followWater_72 : decode cX7_followWater 72 = .ok (.dup2, 1) := by decide +kernel
theorem dX7_followWater_73 : decode cX7_followWater 73 = .ok (.iaload, 1) := by decide +kernel
theorem dX7_followWater_74 : decode cX7_followWater 74 = .ok (.iconst 1, 1) := by decide +kernel
theorem dX7_followWater_75 : decode cX7_followWater 75 = .ok (.iadd, 1) := by decide +kernel
theorem dX7_followWater_76 : decode cX7_followWater 76 = .ok (.iastore, 1) := by decide +kernel
theorem dX7_followWater_77 : decode cX7_followWater 77 = .ok (.iinc 4 1, 3) := by decide +kernel
theorem dX7_followWater_80 : decode cX7_followWater 80 = .ok (.goto (-77), 3) := by decide +kernel
theorem dX7_followWater_83 : decode cX7_followWater 83 = .ok (.iload 4, 2) := by decide +kernel
theorem dX7_followWater_85 : decode cX7_followWater 85 = .ok (.ireturn, 1) := by decide +kernel
theorem dX7_follow_0 : decode cX7_follow 0 = .ok (.aload_n 0, 1) := by decide +kernel
theorem dX7_follow_1 : decode cX7_follow 1 = .ok (.getfield 25, 3) := by decide +kernel
theorem dX7_follow_4 : decode cX7_follow 4 = .ok (.iload_n 1, 1) := by decide +kernel
theorem dX7_follow_5 : decode cX7_follow 5 = .ok (.iaload, 1) := by decide +kernel
theorem dX7_follow_6 : decode cX7_follow 6 = .ok (.istore_n 2, 1) := by decide +kernel
theorem dX7_follow_7 : decode cX7_follow 7 = .ok (.aload_n 0, 1) := by decide +kernel
theorem dX7_follow_8 : decode cX7_follow 8 = .ok (.getfield 28, 3) := by decide +kernel
theorem dX7_follow_11 : decode cX7_follow 11 = .ok (.iload_n 1, 1) := by decide +kernel
theorem dX7_follow_12 : decode cX7_follow 12 = .ok (.iaload, 1) := by decide +kernel
theorem dX7_follow_13 : decode cX7_follow 13 = .ok (.istore_n 3, 1) := by decide +kernel
theorem dX7_follow_14 : decode cX7_follow 14 = .ok (.iconst 0, 1) := by decide +kernel
theorem dX7_follow_15 : decode cX7_follow 15 = .ok (.istore 4, 2) := by decide +kernel
theorem dX7_follow_17 : decode cX7_follow 17 = .ok (.iload 4, 2) := by decide +kernel
theorem dX7_follow_19 : decode cX7_follow 19 = .ok (.aload_n 0, 1) := by decide +kernel
theorem dX7_follow_20 : decode cX7_follow 20 = .ok (.getfield 7, 3) := by decide +kernel
theorem dX7_follow_23 : decode cX7_follow 23 = .ok (.bipush 101, 2) := by decide +kernel
theorem dX7_follow_25 : decode cX7_follow 25 = .ok (.iload_n 2, 1) := by decide +kernel
theorem dX7_follow_26 : decode cX7_follow 26 = .ok (.iadd, 1) := by decide +kernel
theorem dX7_follow_27 : decode cX7_follow 27 = .ok (.iaload, 1) := by decide +kernel
theorem dX7_follow_28 : decode cX7_follow 28 = .ok (.if_icmp .ge 92, 3) := by decide +kernel
theorem dX7_follow_31 : decode cX7_follow 31 = .ok (.aload_n 0, 1) := by decide +kernel
theorem dX7_follow_32 : decode cX7_follow 32 = .ok (.iload_n 2, 1) := by decide +kernel
theorem dX7_follow_33 : decode cX7_follow 33 = .ok (.iload 4, 2) := by decide +kernel
theorem dX7_follow_35 : decode cX7_follow 35 = .ok (.invokevirtual 71, 3) := by decide +kernel
theorem dX7_follow_38 : decode cX7_follow 38 = .ok (.istore 5, 2) := by decide +kernel
theorem dX7_follow_40 : decode cX7_follow 40 = .ok (.iload 5, 2) := by decide +kernel
theorem dX7_follow_42 : decode cX7_follow 42 = .ok (.bipush 126, 2) := by decide +kernel
theorem dX7_follow_44 : decode cX7_follow 44 = .ok (.if_icmp .ne 15, 3) := by decide +kernel
theorem dX7_follow_47 : decode cX7_follow 47 = .ok (.aload_n 0, 1) := by decide +kernel
theorem dX7_follow_48 : decode cX7_follow 48 = .ok (.iload_n 1, 1) := by decide +kernel
theorem dX7_follow_49 : decode cX7_follow 49 = .ok (.iload 4, 2) := by decide +kernel
theorem dX7_follow_51 : decode cX7_follow 51 = .ok (.iload_n 3, 1) := by decide +kernel
theorem dX7_follow_52 : decode cX7_follow 52 = .ok (.invokevirtual 108, 3) := by decide +kernel
theorem dX7_follow_55 : decode cX7_follow 55 = .ok (.istore_n 3, 1) := by decide +kernel
theorem dX7_follow_56 : decode cX7_follow 56 = .ok (.goto 58, 3) := by decide +kernel
theorem dX7_follow_59 : decode cX7_follow 59 = .ok (.iload 5, 2) := by decide +kernel
theorem dX7_follow_61 : decode cX7_follow 61 = .ok (.invokestatic 68, 3) := by decide +kernel
theorem dX7_follow_64 : decode cX7_follow 64 = .ok (.ifCond .eq 14, 3) := by decide +kernel
theorem dX7_follow_67 : decode cX7_follow 67 = .ok (.aload_n 0, 1) := by decide +kernel
theorem dX7_follow_68 : decode cX7_follow 68 = .ok (.iload 5, 2) := by decide +kernel
theorem dX7_follow_70 : decode cX7_follow 70 = .ok (.bipush 65, 2) := by decide +kernel
theorem dX7_follow_72 : decode cX7_follow 72 = .ok (.isub, 1) := by decide +kernel
theorem dX7_follow_73 : decode cX7_follow 73 = .ok (.iload_n 3, 1) := by decide +kernel
theorem dX7_follow_74 : decode cX7_follow 74 = .ok (.iload_n 1, 1) := by decide +kernel
theorem dX7_follow_75 : decode cX7_follow 75 = .ok (.invokevirtual 104, 3) := by decide +kernel
theorem dX7_follow_78 : decode cX7_follow 78 = .ok (.iload 5, 2) := by decide +kernel
theorem dX7_follow_80 : decode cX7_follow 80 = .ok (.bipush 35, 2) := by decide +kernel
theorem dX7_follow_82 : decode cX7_follow 82 = .ok (.if_icmp .ne 24, 3) := by decide +kernel
theorem dX7_follow_85 : decode cX7_follow 85 = .ok (.aload_n 0, 1) := by decide +kernel
theorem dX7_follow_86 : decode cX7_follow 86 = .ok (.getfield 37, 3) := by decide +kernel
theorem dX7_follow_89 : decode cX7_follow 89 = .ok (.iload_n 1, 1) := by decide +kernel
theorem dX7_follow_90 : decode cX7_follow 90 = .ok (.iaload, 1) := by decide +kernel
theorem dX7_follow_91 : decode cX7_follow 91 = .ok (.iconst (-1), 1) := by decide +kernel
theorem dX7_follow_92 : decode cX7_follow 92 = .ok (.if_icmp .ne 14, 3) := by decide +kernel
theorem dX7_follow_95 : decode cX7_follow 95 = .ok (.aload_n 0, 1) := by decide +kernel
theorem dX7_follow_96 : decode cX7_follow 96 = .ok (.getfield 37, 3) := by decide +kernel
theorem dX7_follow_99 : decode cX7_follow 99 = .ok (.iload_n 1, 1) := by decide +kernel
theorem dX7_follow_100 : decode cX7_follow 100 = .ok (.aload_n 0, 1) := by decide +kernel
theorem dX7_follow_101 : decode cX7_follow 101 = .ok (.iload_n 3, 1) := by decide +kernel
theorem dX7_follow_102 : decode cX7_follow 102 = .ok (.invokevirtual 111, 3) := by decide +kernel
theorem dX7_follow_105 : decode cX7_follow 105 = .ok (.iastore, 1) := by decide +kernel
theorem dX7_follow_106 : decode cX7_follow 106 = .ok (.aload_n 0, 1) := by decide +kernel
theorem dX7_follow_107 : decode cX7_follow 107 = .ok (.iload 5, 2) := by decide +kernel
theorem dX7_follow_109 : decode cX7_follow 109 = .ok (.iload_n 3, 1) := by decide +kernel
theorem dX7_follow_110 : decode cX7_follow 110 = .ok (.invokevirtual 91, 3) := by decide +kernel
theorem dX7_follow_113 : decode cX7_follow 113 = .ok (.istore_n 3, 1) := by decide +kernel
theorem dX7_follow_114 : decode cX7_follow 114 = .ok (.iinc 4 1, 3) := by decide +kernel
theorem dX7_follow_117 : decode cX7_follow 117 = .ok (.goto (-100), 3) := by decide +kernel
theorem dX7_follow_120 : decode cX7_follow 120 = .ok (.return_, 1) := by decide +kernel
theorem dX7_parse_0 : decode cX7_parse 0 = .ok (.aload_n 0, 1) := by decide +kernel
theorem dX7_parse_1 : decode cX7_parse 1 = .ok (.invokevirtual 97, 3) := by decide +kernel
theorem dX7_parse_4 : decode cX7_parse 4 = .ok (.aload_n 0, 1) := by decide +kernel
theorem dX7_parse_5 : decode cX7_parse 5 = .ok (.iconst 0, 1) := by decide +kernel
theorem dX7_parse_6 : decode cX7_parse 6 = .ok (.putfield 100, 3) := by decide +kernel
theorem dX7_parse_9 : decode cX7_parse 9 = .ok (.aload_n 0, 1) := by decide +kernel
theorem dX7_parse_10 : decode cX7_parse 10 = .ok (.iconst 0, 1) := by decide +kernel
theorem dX7_parse_11 : decode cX7_parse 11 = .ok (.putfield 114, 3) := by decide +kernel
theorem dX7_parse_14 : decode cX7_parse 14 = .ok (.aload_n 0, 1) := by decide +kernel
theorem dX7_parse_15 : decode cX7_parse 15 = .ok (.iconst 0, 1) := by decide +kernel
theorem dX7_parse_16 : decode cX7_parse 16 = .ok (.putfield 117, 3) := by decide +kernel
theorem dX7_parse_19 : decode cX7_parse 19 = .ok (.iconst 0, 1) := by decide +kernel
theorem dX7_parse_20 : decode cX7_parse 20 = .ok (.istore_n 1, 1) := by decide +kernel
theorem dX7_parse_21 : decode cX7_parse 21 = .ok (.iconst 0, 1) := by decide +kernel
theorem dX7_parse_22 : decode cX7_parse 22 = .ok (.istore_n 2, 1) := by decide +kernel
theorem dX7_parse_23 : decode cX7_parse 23 = .ok (.iload_n 2, 1) := by decide +kernel
theorem dX7_parse_24 : decode cX7_parse 24 = .ok (.aload_n 0, 1) := by decide +kernel
theorem dX7_parse_25 : decode cX7_parse 25 = .ok (.getfield 7, 3) := by decide +kernel
theorem dX7_parse_28 : decode cX7_parse 28 = .ok (.iconst 0, 1) := by decide +kernel
theorem dX7_parse_29 : decode cX7_parse 29 = .ok (.iaload, 1) := by decide +kernel
theorem dX7_parse_30 : decode cX7_parse 30 = .ok (.if_icmp .ge 77, 3) := by decide +kernel
theorem dX7_parse_33 : decode cX7_parse 33 = .ok (.aload_n 0, 1) := by decide +kernel
theorem dX7_parse_34 : decode cX7_parse 34 = .ok (.iload_n 2, 1) := by decide +kernel
theorem dX7_parse_35 : decode cX7_parse 35 = .ok (.invokevirtual 85, 3) := by decide +kernel
theorem dX7_parse_38 : decode cX7_parse 38 = .ok (.istore_n 3, 1) := by decide +kernel
theorem dX7_parse_39 : decode cX7_parse 39 = .ok (.iload_n 3, 1) := by decide +kernel
theorem dX7_parse_40 : decode cX7_parse 40 = .ok (.iconst (-1), 1) := by decide +kernel
theorem dX7_parse_41 : decode cX7_parse 41 = .ok (.if_icmp .eq 27, 3) := by decide +kernel
theorem dX7_parse_44 : decode cX7_parse 44 = .ok (.aload_n 0, 1) := by decide +kernel
theorem dX7_parse_45 : decode cX7_parse 45 = .ok (.iload_n 3, 1) := by decide +kernel
theorem dX7_parse_46 : decode cX7_parse 46 = .ok (.iload_n 2, 1) := by decide +kernel
theorem dX7_parse_47 : decode cX7_parse 47 = .ok (.iconst (-1), 1) := by decide +kernel
theorem dX7_parse_48 : decode cX7_parse 48 = .ok (.invokevirtual 104, 3) := by decide +kernel
theorem dX7_parse_51 : decode cX7_parse 51 = .ok (.aload_n 0, 1) := by decide +kernel
theorem dX7_parse_52 : decode cX7_parse 52 = .ok (.getfield 22, 3) := by decide +kernel
theorem dX7_parse_55 : decode cX7_parse 55 = .ok (.iload_n 3, 1) := by decide +kernel
theorem dX7_parse_56 : decode cX7_parse 56 = .ok (.iconst 0, 1) := by decide +kernel
theorem dX7_parse_57 : decode cX7_parse 57 = .ok (.iload_n 2, 1) := by decide +kernel
theorem dX7_parse_58 : decode cX7_parse 58 = .ok (.invokestatic 78, 3) := by decide +kernel
theorem dX7_parse_61 : decode cX7_parse 61 = .ok (.iaload, 1) := by decide +kernel
theorem dX7_parse_62 : decode cX7_parse 62 = .ok (.istore_n 2, 1) := by decide +kernel
theorem dX7_parse_63 : decode cX7_parse 63 = .ok (.iconst 0, 1) := by decide +kernel
theorem dX7_parse_64 : decode cX7_parse 64 = .ok (.istore_n 1, 1) := by decide +kernel
theorem dX7_parse_65 : decode cX7_parse 65 = .ok (.goto 39, 3) := by decide +kernel
theorem dX7_parse_68 : decode cX7_parse 68 = .ok (.aload_n 0, 1) := by decide +kernel
theorem dX7_parse_69 : decode cX7_parse 69 = .ok (.dup, 1) := by decide +kernel
theorem dX7_parse_70 : decode cX7_parse 70 = .ok (.getfield 114, 3) := by decide +kernel
theorem dX7_parse_73 : decode cX7_parse 73 = .ok (.iconst 1, 1) := by decide +kernel
theorem dX7_parse_74 : decode cX7_parse 74 = .ok (.iadd, 1) := by decide +kernel
theorem dX7_parse_75 : decode cX7_parse 75 = .ok (.putfield 114, 3) := by decide +kernel
theorem dX7_parse_78 : decode cX7_parse 78 = .ok (.iinc 1 1, 3) := by decide +kernel
theorem dX7_parse_81 : decode cX7_parse 81 = .ok (.aload_n 0, 1) := by decide +kernel
theorem dX7_parse_82 : decode cX7_parse 82 = .ok (.iload_n 1, 1) := by decide +kernel
theorem dX7_parse_83 : decode cX7_parse 83 = .ok (.aload_n 0, 1) := by decide +kernel
theorem dX7_parse_84 : decode cX7_parse 84 = .ok (.getfield 117, 3) := by decide +kernel
theorem dX7_parse_87 : decode cX7_parse 87 = .ok (.if_icmp .le 7, 3) := by decide +kernel
theorem dX7_parse_90 : decode cX7_parse 90 = .ok (.iload_n 1, 1) := by decide +kernel
theorem dX7_parse_91 : decode cX7_parse 91 = .ok (.goto 7, 3) := by decide +kernel
theorem dX7_parse_94 : decode cX7_parse 94 = .ok (.aload_n 0, 1) := by decide +kernel
theorem dX7_parse_95 : decode cX7_parse 95 = .ok (.getfield 117, 3) := by decide +kernel
theorem dX7_parse_98 : decode cX7_parse 98 = .ok (.putfield 117, 3) := by decide +kernel
theorem dX7_parse_101 : decode cX7_parse 101 = .ok (.iinc 2 1, 3) := by decide +kernel
theorem dX7_parse_104 : decode cX7_parse 104 = .ok (.goto (-81), 3) := by decide +kernel
theorem dX7_parse_107 : decode cX7_parse 107 = .ok (.aload_n 0, 1) := by decide +kernel
theorem dX7_parse_108 : decode cX7_parse 108 = .ok (.aload_n 0, 1) := by decide +kernel
theorem dX7_parse_109 : decode cX7_parse 109 = .ok (.getfield 100, 3) := by decide +kernel
theorem dX7_parse_112 : decode cX7_parse 112 = .ok (.putfield 120, 3) := by decide +kernel
theorem dX7_parse_115 : decode cX7_parse 115 = .ok (.iconst 0, 1) := by decide +kernel
theorem dX7_parse_116 : decode cX7_parse 116 = .ok (.istore_n 3, 1) := by decide +kernel
theorem dX7_parse_117 : decode cX7_parse 117 = .ok (.iload_n 3, 1) := by decide +kernel
theorem dX7_parse_118 : decode cX7_parse 118 = .ok (.aload_n 0, 1) := by decide +kernel
theorem dX7_parse_119 : decode cX7_parse 119 = .ok (.getfield 100, 3) := by decide +kernel
theorem dX7_parse_122 : decode cX7_parse 122 = .ok (.if_icmp .ge 14, 3) := by decide +kernel
theorem dX7_parse_125 : decode cX7_parse 125 = .ok (.aload_n 0, 1) := by decide +kernel
theorem dX7_parse_126 : decode cX7_parse 126 = .ok (.iload_n 3, 1) := by decide +kernel
theorem dX7_parse_127 : decode cX7_parse 127 = .ok (.invokevirtual 123, 3) := by decide +kernel
theorem dX7_parse_130 : decode cX7_parse 130 = .ok (.iinc 3 1, 3) := by decide +kernel
theorem dX7_parse_133 : decode cX7_parse 133 = .ok (.goto (-16), 3) := by decide +kernel
theorem dX7_parse_136 : decode cX7_parse 136 = .ok (.return_, 1) := by decide +kernel
theorem dX7_foundOf_0 : decode cX7_foundOf 0 = .ok (.iconst 0, 1) := by decide +kernel
theorem dX7_foundOf_1 : decode cX7_foundOf 1 = .ok (.istore_n 2, 1) := by decide +kernel
theorem dX7_foundOf_2 : decode cX7_foundOf 2 = .ok (.iload_n 2, 1) := by decide +kernel
theorem dX7_foundOf_3 : decode cX7_foundOf 3 = .ok (.aload_n 0, 1) := by decide +kernel
theorem dX7_foundOf_4 : decode cX7_foundOf 4 = .ok (.getfield 100, 3) := by decide +kernel
theorem dX7_foundOf_7 : decode cX7_foundOf 7 = .ok (.if_icmp .ge 20, 3) := by decide +kernel
theorem dX7_foundOf_10 : decode cX7_foundOf 10 = .ok (.aload_n 0, 1) := by decide +kernel
theorem dX7_foundOf_11 : decode cX7_foundOf 11 = .ok (.iload_n 2, 1) := by decide +kernel
theorem dX7_foundOf_12 : decode cX7_foundOf 12 = .ok (.invokevirtual 127, 3) := by decide +kernel
theorem dX7_foundOf_15 : decode cX7_foundOf 15 = .ok (.iload_n 1, 1) := by decide +kernel
theorem dX7_foundOf_16 : decode cX7_foundOf 16 = .ok (.if_icmp .ne 5, 3) := by decide +kernel
theorem dX7_foundOf_19 : decode cX7_foundOf 19 = .ok (.iload_n 2, 1) := by decide +kernel
theorem dX7_foundOf_20 : decode cX7_foundOf 20 = .ok (.ireturn, 1) := by decide +kernel
theorem dX7_foundOf_21 : decode cX7_foundOf 21 = .ok (.iinc 2 1, 3) := by decide +kernel
theorem dX7_foundOf_24 : decode cX7_foundOf 24 = .ok (.goto (-22), 3) := by decide +kernel
theorem dX7_foundOf_27 : decode cX7_foundOf 27 = .ok (.iconst (-1), 1) := by decide +kernel
theorem dX7_foundOf_28 : decode cX7_foundOf 28 = .ok (.ireturn, 1) := by decide +kernel
theorem dX7_numberOf_0 : decode cX7_numberOf 0 = .ok (.iconst 0, 1) := by decide +kernel
theorem dX7_numberOf_1 : decode cX7_numberOf 1 = .ok (.istore_n 2, 1) := by decide +kernel
theorem dX7_numberOf_2 : decode cX7_numberOf 2 = .ok (.iconst 0, 1) := by decide +kernel
theorem dX7_numberOf_3 : decode cX7_numberOf 3 = .ok (.istore_n 3, 1) := by decide +kernel
theorem dX7_numberOf_4 : decode cX7_numberOf 4 = .ok (.iload_n 3, 1) := by decide +kernel
theorem dX7_numberOf_5 : decode cX7_numberOf 5 = .ok (.aload_n 0, 1) := by decide +kernel
theorem dX7_numberOf_6 : decode cX7_numberOf 6 = .ok (.getfield 100, 3) := by decide +kernel
theorem dX7_numberOf_9 : decode cX7_numberOf 9 = .ok (.if_icmp .ge 32, 3) := by decide +kernel
theorem dX7_numberOf_12 : decode cX7_numberOf 12 = .ok (.iload_n 2, 1) := by decide +kernel
theorem dX7_numberOf_13 : decode cX7_numberOf 13 = .ok (.aload_n 0, 1) := by decide +kernel
theorem dX7_numberOf_14 : decode cX7_numberOf 14 = .ok (.getfield 28, 3) := by decide +kernel
theorem dX7_numberOf_17 : decode cX7_numberOf 17 = .ok (.iload_n 3, 1) := by decide +kernel
theorem dX7_numberOf_18 : decode cX7_numberOf 18 = .ok (.iaload, 1) := by decide +kernel
theorem dX7_numberOf_19 : decode cX7_numberOf 19 = .ok (.aload_n 0, 1) := by decide +kernel
theorem dX7_numberOf_20 : decode cX7_numberOf 20 = .ok (.getfield 28, 3) := by decide +kernel
theorem dX7_numberOf_23 : decode cX7_numberOf 23 = .ok (.iload_n 1, 1) := by decide +kernel
theorem dX7_numberOf_24 : decode cX7_numberOf 24 = .ok (.iaload, 1) := by decide +kernel
theorem dX7_numberOf_25 : decode cX7_numberOf 25 = .ok (.if_icmp .ge 7, 3) := by decide +kernel
theorem dX7_numberOf_28 : decode cX7_numberOf 28 = .ok (.iconst 1, 1) := by decide +kernel
theorem dX7_numberOf_29 : decode cX7_numberOf 29 = .ok (.goto 4, 3) := by decide +kernel
theorem dX7_numberOf_32 : decode cX7_numberOf 32 = .ok (.iconst 0, 1) := by decide +kernel
theorem dX7_numberOf_33 : decode cX7_numberOf 33 = .ok (.iadd, 1) := by decide +kernel
theorem dX7_numberOf_34 : decode cX7_numberOf 34 = .ok (.istore_n 2, 1) := by decide +kernel
theorem dX7_numberOf_35 : decode cX7_numberOf 35 = .ok (.iinc 3 1, 3) := by decide +kernel
theorem dX7_numberOf_38 : decode cX7_numberOf 38 = .ok (.goto (-34), 3) := by decide +kernel
theorem dX7_numberOf_41 : decode cX7_numberOf 41 = .ok (.iload_n 2, 1) := by decide +kernel
theorem dX7_numberOf_42 : decode cX7_numberOf 42 = .ok (.ireturn, 1) := by decide +kernel
theorem dX7_depthOf_0 : decode cX7_depthOf 0 = .ok (.iconst 0, 1) := by decide +kernel
theorem dX7_depthOf_1 : decode cX7_depthOf 1 = .ok (.istore_n 2, 1) := by decide +kernel
theorem dX7_depthOf_2 : decode cX7_depthOf 2 = .ok (.aload_n 0, 1) := by decide +kernel
theorem dX7_depthOf_3 : decode cX7_depthOf 3 = .ok (.getfield 31, 3) := by decide +kernel
theorem dX7_depthOf_6 : decode cX7_depthOf 6 = .ok (.iload_n 1, 1) := by decide +kernel
theorem dX7_depthOf_7 : decode cX7_depthOf 7 = .ok (.iaload, 1) := by decide +kernel
theorem dX7_depthOf_8 : decode cX7_depthOf 8 = .ok (.istore_n 3, 1) := by decide +kernel
theorem dX7_depthOf_9 : decode cX7_depthOf 9 = .ok (.iload_n 3, 1) := by decide +kernel
theorem dX7_depthOf_10 : decode cX7_depthOf 10 = .ok (.iconst (-1), 1) := by decide +kernel
theorem dX7_depthOf_11 : decode cX7_depthOf 11 = .ok (.if_icmp .eq 16, 3) := by decide +kernel
theorem dX7_depthOf_14 : decode cX7_depthOf 14 = .ok (.iinc 2 1, 3) := by decide +kernel
theorem dX7_depthOf_17 : decode cX7_depthOf 17 = .ok (.aload_n 0, 1) := by decide +kernel
theorem dX7_depthOf_18 : decode cX7_depthOf 18 = .ok (.getfield 31, 3) := by decide +kernel
theorem dX7_depthOf_21 : decode cX7_depthOf 21 = .ok (.iload_n 3, 1) := by decide +kernel
theorem dX7_depthOf_22 : decode cX7_depthOf 22 = .ok (.iaload, 1) := by decide +kernel
theorem dX7_depthOf_23 : decode cX7_depthOf 23 = .ok (.istore_n 3, 1) := by decide +kernel
theorem dX7_depthOf_24 : decode cX7_depthOf 24 = .ok (.goto (-15), 3) := by decide +kernel
theorem dX7_depthOf_27 : decode cX7_depthOf 27 = .ok (.iload_n 2, 1) := by decide +kernel
theorem dX7_depthOf_28 : decode cX7_depthOf 28 = .ok (.ireturn, 1) := by decide +kernel
theorem dX7_parentOf_0 : decode cX7_parentOf 0 = .ok (.aload_n 0, 1) := by decide +kernel
theorem dX7_parentOf_1 : decode cX7_parentOf 1 = .ok (.getfield 31, 3) := by decide +kernel
theorem dX7_parentOf_4 : decode cX7_parentOf 4 = .ok (.iload_n 1, 1) := by decide +kernel
theorem dX7_parentOf_5 : decode cX7_parentOf 5 = .ok (.iaload, 1) := by decide +kernel
theorem dX7_parentOf_6 : decode cX7_parentOf 6 = .ok (.iconst (-1), 1) := by decide +kernel
theorem dX7_parentOf_7 : decode cX7_parentOf 7 = .ok (.if_icmp .ne 7, 3) := by decide +kernel
theorem dX7_parentOf_10 : decode cX7_parentOf 10 = .ok (.iconst (-1), 1) := by decide +kernel
theorem dX7_parentOf_11 : decode cX7_parentOf 11 = .ok (.goto 13, 3) := by decide +kernel
theorem dX7_parentOf_14 : decode cX7_parentOf 14 = .ok (.aload_n 0, 1) := by decide +kernel
theorem dX7_parentOf_15 : decode cX7_parentOf 15 = .ok (.aload_n 0, 1) := by decide +kernel
theorem dX7_parentOf_16 : decode cX7_parentOf 16 = .ok (.getfield 31, 3) := by decide +kernel
theorem dX7_parentOf_19 : decode cX7_parentOf 19 = .ok (.iload_n 1, 1) := by decide +kernel
theorem dX7_parentOf_20 : decode cX7_parentOf 20 = .ok (.iaload, 1) := by decide +kernel
theorem dX7_parentOf_21 : decode cX7_parentOf 21 = .ok (.invokevirtual 127, 3) := by decide +kernel
theorem dX7_parentOf_24 : decode cX7_parentOf 24 = .ok (.ireturn, 1) := by decide +kernel
theorem dX7_askNode_0 : decode cX7_askNode 0 = .ok (.aload_n 0, 1) := by decide +kernel
theorem dX7_askNode_1 : decode cX7_askNode 1 = .ok (.invokevirtual 130, 3) := by decide +kernel
theorem dX7_askNode_4 : decode cX7_askNode 4 = .ok (.iload_n 1, 1) := by decide +kernel
theorem dX7_askNode_5 : decode cX7_askNode 5 = .ok (.iconst 0, 1) := by decide +kernel
theorem dX7_askNode_6 : decode cX7_askNode 6 = .ok (.aload_n 0, 1) := by decide +kernel
theorem dX7_askNode_7 : decode cX7_askNode 7 = .ok (.getfield 100, 3) := by decide +kernel
theorem dX7_askNode_10 : decode cX7_askNode 10 = .ok (.iconst 1, 1) := by decide +kernel
theorem dX7_askNode_11 : decode cX7_askNode 11 = .ok (.isub, 1) := by decide +kernel
theorem dX7_askNode_12 : decode cX7_askNode 12 = .ok (.invokestatic 44, 3) := by decide +kernel
theorem dX7_askNode_15 : decode cX7_askNode 15 = .ok (.ifCond .ne 10, 3) := by decide +kernel
theorem dX7_askNode_18 : decode cX7_askNode 18 = .ok (.aload_n 0, 1) := by decide +kernel
theorem dX7_askNode_19 : decode cX7_askNode 19 = .ok (.bipush (-2), 2) := by decide +kernel
theorem dX7_askNode_21 : decode cX7_askNode 21 = .ok (.invokevirtual 52, 3) := by decide +kernel
theorem dX7_askNode_24 : decode cX7_askNode 24 = .ok (.ireturn, 1) := by decide +kernel
theorem dX7_askNode_25 : decode cX7_askNode 25 = .ok (.aload_n 0, 1) := by decide +kernel
theorem dX7_askNode_26 : decode cX7_askNode 26 = .ok (.iload_n 1, 1) := by decide +kernel
theorem dX7_askNode_27 : decode cX7_askNode 27 = .ok (.invokevirtual 133, 3) := by decide +kernel
theorem dX7_askNode_30 : decode cX7_askNode 30 = .ok (.istore_n 3, 1) := by decide +kernel
theorem dX7_askNode_31 : decode cX7_askNode 31 = .ok (.iload_n 2, 1) := by decide +kernel
theorem dX7_askNode_32 : decode cX7_askNode 32 = .ok (.tableswitch 79 0 5 #[40, 47, 54, 60, 66, 72], 40) := by decide +kernel
theorem dX7_askNode_72 : decode cX7_askNode 72 = .ok (.aload_n 0, 1) := by decide +kernel
theorem dX7_askNode_73 : decode cX7_askNode 73 = .ok (.getfield 25, 3) := by decide +kernel
theorem dX7_askNode_76 : decode cX7_askNode 76 = .ok (.iload_n 3, 1) := by decide +kernel
theorem dX7_askNode_77 : decode cX7_askNode 77 = .ok (.iaload, 1) := by decide +kernel
theorem dX7_askNode_78 : decode cX7_askNode 78 = .ok (.ireturn, 1) := by decide +kernel
theorem dX7_askNode_79 : decode cX7_askNode 79 = .ok (.aload_n 0, 1) := by decide +kernel
theorem dX7_askNode_80 : decode cX7_askNode 80 = .ok (.getfield 28, 3) := by decide +kernel
theorem dX7_askNode_83 : decode cX7_askNode 83 = .ok (.iload_n 3, 1) := by decide +kernel
theorem dX7_askNode_84 : decode cX7_askNode 84 = .ok (.iaload, 1) := by decide +kernel
theorem dX7_askNode_85 : decode cX7_askNode 85 = .ok (.ireturn, 1) := by decide +kernel
theorem dX7_askNode_86 : decode cX7_askNode 86 = .ok (.aload_n 0, 1) := by decide +kernel
theorem dX7_askNode_87 : decode cX7_askNode 87 = .ok (.iload_n 3, 1) := by decide +kernel
theorem dX7_askNode_88 : decode cX7_askNode 88 = .ok (.invokevirtual 136, 3) := by decide +kernel
theorem dX7_askNode_91 : decode cX7_askNode 91 = .ok (.ireturn, 1) := by decide +kernel
theorem dX7_askNode_92 : decode cX7_askNode 92 = .ok (.aload_n 0, 1) := by decide +kernel
theorem dX7_askNode_93 : decode cX7_askNode 93 = .ok (.iload_n 3, 1) := by decide +kernel
theorem dX7_askNode_94 : decode cX7_askNode 94 = .ok (.invokevirtual 139, 3) := by decide +kernel
theorem dX7_askNode_97 : decode cX7_askNode 97 = .ok (.ireturn, 1) := by decide +kernel
theorem dX7_askNode_98 : decode cX7_askNode 98 = .ok (.aload_n 0, 1) := by decide +kernel
theorem dX7_askNode_99 : decode cX7_askNode 99 = .ok (.iload_n 3, 1) := by decide +kernel
theorem dX7_askNode_100 : decode cX7_askNode 100 = .ok (.invokevirtual 142, 3) := by decide +kernel
theorem dX7_askNode_103 : decode cX7_askNode 103 = .ok (.ireturn, 1) := by decide +kernel
theorem dX7_askNode_104 : decode cX7_askNode 104 = .ok (.aload_n 0, 1) := by decide +kernel
theorem dX7_askNode_105 : decode cX7_askNode 105 = .ok (.getfield 34, 3) := by decide +kernel
theorem dX7_askNode_108 : decode cX7_askNode 108 = .ok (.iload_n 3, 1) := by decide +kernel
theorem dX7_askNode_109 : decode cX7_askNode 109 = .ok (.iaload, 1) := by decide +kernel
theorem dX7_askNode_110 : decode cX7_askNode 110 = .ok (.ireturn, 1) := by decide +kernel
theorem dX7_askNode_111 : decode cX7_askNode 111 = .ok (.aload_n 0, 1) := by decide +kernel
theorem dX7_askNode_112 : decode cX7_askNode 112 = .ok (.getfield 37, 3) := by decide +kernel
theorem dX7_askNode_115 : decode cX7_askNode 115 = .ok (.iload_n 3, 1) := by decide +kernel
theorem dX7_askNode_116 : decode cX7_askNode 116 = .ok (.iaload, 1) := by decide +kernel
theorem dX7_askNode_117 : decode cX7_askNode 117 = .ok (.ireturn, 1) := by decide +kernel
theorem dX7_nodeCount_0 : decode cX7_nodeCount 0 = .ok (.aload_n 0, 1) := by decide +kernel
theorem dX7_nodeCount_1 : decode cX7_nodeCount 1 = .ok (.invokevirtual 130, 3) := by decide +kernel
theorem dX7_nodeCount_4 : decode cX7_nodeCount 4 = .ok (.aload_n 0, 1) := by decide +kernel
theorem dX7_nodeCount_5 : decode cX7_nodeCount 5 = .ok (.getfield 100, 3) := by decide +kernel
theorem dX7_nodeCount_8 : decode cX7_nodeCount 8 = .ok (.ireturn, 1) := by decide +kernel
theorem dX7_islandCount_0 : decode cX7_islandCount 0 = .ok (.aload_n 0, 1) := by decide +kernel
theorem dX7_islandCount_1 : decode cX7_islandCount 1 = .ok (.invokevirtual 130, 3) := by decide +kernel
theorem dX7_islandCount_4 : decode cX7_islandCount 4 = .ok (.aload_n 0, 1) := by decide +kernel
theorem dX7_islandCount_5 : decode cX7_islandCount 5 = .ok (.getfield 120, 3) := by decide +kernel
theorem dX7_islandCount_8 : decode cX7_islandCount 8 = .ok (.ireturn, 1) := by decide +kernel
theorem dX7_nodeRule_0 : decode cX7_nodeRule 0 = .ok (.aload_n 0, 1) := by decide +kernel
theorem dX7_nodeRule_1 : decode cX7_nodeRule 1 = .ok (.iload_n 1, 1) := by decide +kernel
theorem dX7_nodeRule_2 : decode cX7_nodeRule 2 = .ok (.iconst 0, 1) := by decide +kernel
theorem dX7_nodeRule_3 : decode cX7_nodeRule 3 = .ok (.invokevirtual 145, 3) := by decide +kernel
theorem dX7_nodeRule_6 : decode cX7_nodeRule 6 = .ok (.ireturn, 1) := by decide +kernel
theorem dX7_nodeStart_0 : decode cX7_nodeStart 0 = .ok (.aload_n 0, 1) := by decide +kernel
theorem dX7_nodeStart_1 : decode cX7_nodeStart 1 = .ok (.iload_n 1, 1) := by decide +kernel
theorem dX7_nodeStart_2 : decode cX7_nodeStart 2 = .ok (.iconst 1, 1) := by decide +kernel
theorem dX7_nodeStart_3 : decode cX7_nodeStart 3 = .ok (.invokevirtual 145, 3) := by decide +kernel
theorem dX7_nodeStart_6 : decode cX7_nodeStart 6 = .ok (.ireturn, 1) := by decide +kernel
theorem dX7_nodeEnd_0 : decode cX7_nodeEnd 0 = .ok (.aload_n 0, 1) := by decide +kernel
theorem dX7_nodeEnd_1 : decode cX7_nodeEnd 1 = .ok (.iload_n 1, 1) := by decide +kernel
theorem dX7_nodeEnd_2 : decode cX7_nodeEnd 2 = .ok (.iconst 2, 1) := by decide +kernel
theorem dX7_nodeEnd_3 : decode cX7_nodeEnd 3 = .ok (.invokevirtual 145, 3) := by decide +kernel
theorem dX7_nodeEnd_6 : decode cX7_nodeEnd 6 = .ok (.ireturn, 1) := by decide +kernel
theorem dX7_nodeParent_0 : decode cX7_nodeParent 0 = .ok (.aload_n 0, 1) := by decide +kernel
theorem dX7_nodeParent_1 : decode cX7_nodeParent 1 = .ok (.iload_n 1, 1) := by decide +kernel
theorem dX7_nodeParent_2 : decode cX7_nodeParent 2 = .ok (.iconst 3, 1) := by decide +kernel
theorem dX7_nodeParent_3 : decode cX7_nodeParent 3 = .ok (.invokevirtual 145, 3) := by decide +kernel
theorem dX7_nodeParent_6 : decode cX7_nodeParent 6 = .ok (.ireturn, 1) := by decide +kernel
theorem dX7_nodeDepth_0 : decode cX7_nodeDepth 0 = .ok (.aload_n 0, 1) := by decide +kernel
theorem dX7_nodeDepth_1 : decode cX7_nodeDepth 1 = .ok (.iload_n 1, 1) := by decide +kernel
theorem dX7_nodeDepth_2 : decode cX7_nodeDepth 2 = .ok (.iconst 4, 1) := by decide +kernel
theorem dX7_nodeDepth_3 : decode cX7_nodeDepth 3 = .ok (.invokevirtual 145, 3) := by decide +kernel
theorem dX7_nodeDepth_6 : decode cX7_nodeDepth 6 = .ok (.ireturn, 1) := by decide +kernel
theorem dX7_nodeWater_0 : decode cX7_nodeWater 0 = .ok (.aload_n 0, 1) := by decide +kernel
theorem dX7_nodeWater_1 : decode cX7_nodeWater 1 = .ok (.iload_n 1, 1) := by decide +kernel
theorem dX7_nodeWater_2 : decode cX7_nodeWater 2 = .ok (.iconst 5, 1) := by decide +kernel
theorem dX7_nodeWater_3 : decode cX7_nodeWater 3 = .ok (.invokevirtual 145, 3) := by decide +kernel
theorem dX7_nodeWater_6 : decode cX7_nodeWater 6 = .ok (.ireturn, 1) := by decide +kernel
theorem dX7_nodeNumber_0 : decode cX7_nodeNumber 0 = .ok (.aload_n 0, 1) := by decide +kernel
theorem dX7_nodeNumber_1 : decode cX7_nodeNumber 1 = .ok (.iload_n 1, 1) := by decide +kernel
theorem dX7_nodeNumber_2 : decode cX7_nodeNumber 2 = .ok (.bipush 6, 2) := by decide +kernel
theorem dX7_nodeNumber_4 : decode cX7_nodeNumber 4 = .ok (.invokevirtual 145, 3) := by decide +kernel
theorem dX7_nodeNumber_7 : decode cX7_nodeNumber 7 = .ok (.ireturn, 1) := by decide +kernel
theorem dX7_nodeAt_0 : decode cX7_nodeAt 0 = .ok (.aload_n 0, 1) := by decide +kernel
theorem dX7_nodeAt_1 : decode cX7_nodeAt 1 = .ok (.iload_n 1, 1) := by decide +kernel
theorem dX7_nodeAt_2 : decode cX7_nodeAt 2 = .ok (.invokevirtual 59, 3) := by decide +kernel
theorem dX7_nodeAt_5 : decode cX7_nodeAt 5 = .ok (.ifCond .ne 10, 3) := by decide +kernel
theorem dX7_nodeAt_8 : decode cX7_nodeAt 8 = .ok (.aload_n 0, 1) := by decide +kernel
theorem dX7_nodeAt_9 : decode cX7_nodeAt 9 = .ok (.bipush (-2), 2) := by decide +kernel
theorem dX7_nodeAt_11 : decode cX7_nodeAt 11 = .ok (.invokevirtual 52, 3) := by decide +kernel
theorem dX7_nodeAt_14 : decode cX7_nodeAt 14 = .ok (.ireturn, 1) := by decide +kernel
theorem dX7_nodeAt_15 : decode cX7_nodeAt 15 = .ok (.aload_n 0, 1) := by decide +kernel
theorem dX7_nodeAt_16 : decode cX7_nodeAt 16 = .ok (.invokevirtual 130, 3) := by decide +kernel
theorem dX7_nodeAt_19 : decode cX7_nodeAt 19 = .ok (.iconst (-1), 1) := by decide +kernel
theorem dX7_nodeAt_20 : decode cX7_nodeAt 20 = .ok (.istore_n 2, 1) := by decide +kernel
theorem dX7_nodeAt_21 : decode cX7_nodeAt 21 = .ok (.iconst 0, 1) := by decide +kernel
theorem dX7_nodeAt_22 : decode cX7_nodeAt 22 = .ok (.istore_n 3, 1) := by decide +kernel
theorem dX7_nodeAt_23 : decode cX7_nodeAt 23 = .ok (.iload_n 3, 1) := by decide +kernel
theorem dX7_nodeAt_24 : decode cX7_nodeAt 24 = .ok (.aload_n 0, 1) := by decide +kernel
theorem dX7_nodeAt_25 : decode cX7_nodeAt 25 = .ok (.getfield 100, 3) := by decide +kernel
theorem dX7_nodeAt_28 : decode cX7_nodeAt 28 = .ok (.if_icmp .ge 64, 3) := by decide +kernel
theorem dX7_nodeAt_31 : decode cX7_nodeAt 31 = .ok (.aload_n 0, 1) := by decide +kernel
theorem dX7_nodeAt_32 : decode cX7_nodeAt 32 = .ok (.getfield 28, 3) := by decide +kernel
theorem dX7_nodeAt_35 : decode cX7_nodeAt 35 = .ok (.iload_n 3, 1) := by decide +kernel
theorem dX7_nodeAt_36 : decode cX7_nodeAt 36 = .ok (.iaload, 1) := by decide +kernel
theorem dX7_nodeAt_37 : decode cX7_nodeAt 37 = .ok (.iload_n 1, 1) := by decide +kernel
theorem dX7_nodeAt_38 : decode cX7_nodeAt 38 = .ok (.if_icmp .gt 16, 3) := by decide +kernel
theorem dX7_nodeAt_41 : decode cX7_nodeAt 41 = .ok (.iload_n 1, 1) := by decide +kernel
theorem dX7_nodeAt_42 : decode cX7_nodeAt 42 = .ok (.aload_n 0, 1) := by decide +kernel
theorem dX7_nodeAt_43 : decode cX7_nodeAt 43 = .ok (.iload_n 3, 1) := by decide +kernel
theorem dX7_nodeAt_44 : decode cX7_nodeAt 44 = .ok (.invokevirtual 136, 3) := by decide +kernel
theorem dX7_nodeAt_47 : decode cX7_nodeAt 47 = .ok (.if_icmp .ge 7, 3) := by decide +kernel
theorem dX7_nodeAt_50 : decode cX7_nodeAt 50 = .ok (.iconst 1, 1) := by decide +kernel
theorem dX7_nodeAt_51 : decode cX7_nodeAt 51 = .ok (.goto 4, 3) := by decide +kernel
theorem dX7_nodeAt_54 : decode cX7_nodeAt 54 = .ok (.iconst 0, 1) := by decide +kernel
theorem dX7_nodeAt_55 : decode cX7_nodeAt 55 = .ok (.istore 4, 2) := by decide +kernel
theorem dX7_nodeAt_57 : decode cX7_nodeAt 57 = .ok (.iload 4, 2) := by decide +kernel
theorem dX7_nodeAt_59 : decode cX7_nodeAt 59 = .ok (.ifCond .eq 25, 3) := by decide +kernel
theorem dX7_nodeAt_62 : decode cX7_nodeAt 62 = .ok (.iload_n 2, 1) := by decide +kernel
theorem dX7_nodeAt_63 : decode cX7_nodeAt 63 = .ok (.iconst (-1), 1) := by decide +kernel
theorem dX7_nodeAt_64 : decode cX7_nodeAt 64 = .ok (.if_icmp .eq 16, 3) := by decide +kernel
theorem dX7_nodeAt_67 : decode cX7_nodeAt 67 = .ok (.aload_n 0, 1) := by decide +kernel
theorem dX7_nodeAt_68 : decode cX7_nodeAt 68 = .ok (.iload_n 3, 1) := by decide +kernel
theorem dX7_nodeAt_69 : decode cX7_nodeAt 69 = .ok (.invokevirtual 142, 3) := by decide +kernel
theorem dX7_nodeAt_72 : decode cX7_nodeAt 72 = .ok (.aload_n 0, 1) := by decide +kernel
theorem dX7_nodeAt_73 : decode cX7_nodeAt 73 = .ok (.iload_n 2, 1) := by decide +kernel
theorem dX7_nodeAt_74 : decode cX7_nodeAt 74 = .ok (.invokevirtual 142, 3) := by decide +kernel
theorem dX7_nodeAt_77 : decode cX7_nodeAt 77 = .ok (.if_icmp .le 7, 3) := by decide +kernel
theorem dX7_nodeAt_80 : decode cX7_nodeAt 80 = .ok (.iload_n 3, 1) := by decide +kernel
theorem dX7_nodeAt_81 : decode cX7_nodeAt 81 = .ok (.goto 4, 3) := by decide +kernel
theorem dX7_nodeAt_84 : decode cX7_nodeAt 84 = .ok (.iload_n 2, 1) := by decide +kernel
theorem dX7_nodeAt_85 : decode cX7_nodeAt 85 = .ok (.istore_n 2, 1) := by decide +kernel
theorem dX7_nodeAt_86 : decode cX7_nodeAt 86 = .ok (.iinc 3 1, 3) := by decide +kernel
theorem dX7_nodeAt_89 : decode cX7_nodeAt 89 = .ok (.goto (-66), 3) := by decide +kernel
theorem dX7_nodeAt_92 : decode cX7_nodeAt 92 = .ok (.iload_n 2, 1) := by decide +kernel
theorem dX7_nodeAt_93 : decode cX7_nodeAt 93 = .ok (.iconst (-1), 1) := by decide +kernel
theorem dX7_nodeAt_94 : decode cX7_nodeAt 94 = .ok (.if_icmp .ne 7, 3) := by decide +kernel
theorem dX7_nodeAt_97 : decode cX7_nodeAt 97 = .ok (.iconst (-1), 1) := by decide +kernel
theorem dX7_nodeAt_98 : decode cX7_nodeAt 98 = .ok (.goto 8, 3) := by decide +kernel
theorem dX7_nodeAt_101 : decode cX7_nodeAt 101 = .ok (.aload_n 0, 1) := by decide +kernel
theorem dX7_nodeAt_102 : decode cX7_nodeAt 102 = .ok (.iload_n 2, 1) := by decide +kernel
theorem dX7_nodeAt_103 : decode cX7_nodeAt 103 = .ok (.invokevirtual 127, 3) := by decide +kernel
theorem dX7_nodeAt_106 : decode cX7_nodeAt 106 = .ok (.ireturn, 1) := by decide +kernel
theorem dX7_waterLength_0 : decode cX7_waterLength 0 = .ok (.aload_n 0, 1) := by decide +kernel
theorem dX7_waterLength_1 : decode cX7_waterLength 1 = .ok (.invokevirtual 130, 3) := by decide +kernel
theorem dX7_waterLength_4 : decode cX7_waterLength 4 = .ok (.aload_n 0, 1) := by decide +kernel
theorem dX7_waterLength_5 : decode cX7_waterLength 5 = .ok (.getfield 114, 3) := by decide +kernel
theorem dX7_waterLength_8 : decode cX7_waterLength 8 = .ok (.ireturn, 1) := by decide +kernel
theorem dX7_longestWater_0 : decode cX7_longestWater 0 = .ok (.aload_n 0, 1) := by decide +kernel
theorem dX7_longestWater_1 : decode cX7_longestWater 1 = .ok (.invokevirtual 130, 3) := by decide +kernel
theorem dX7_longestWater_4 : decode cX7_longestWater 4 = .ok (.aload_n 0, 1) := by decide +kernel
theorem dX7_longestWater_5 : decode cX7_longestWater 5 = .ok (.getfield 117, 3) := by decide +kernel
theorem dX7_longestWater_8 : decode cX7_longestWater 8 = .ok (.ireturn, 1) := by decide +kernel
theorem dX7_countOf_0 : decode cX7_countOf 0 = .ok (.iload_n 1, 1) := by decide +kernel
theorem dX7_countOf_1 : decode cX7_countOf 1 = .ok (.invokestatic 65, 3) := by decide +kernel
theorem dX7_countOf_4 : decode cX7_countOf 4 = .ok (.ifCond .ne 10, 3) := by decide +kernel
theorem dX7_countOf_7 : decode cX7_countOf 7 = .ok (.aload_n 0, 1) := by decide +kernel
theorem dX7_countOf_8 : decode cX7_countOf 8 = .ok (.bipush (-2), 2) := by decide +kernel
theorem dX7_countOf_10 : decode cX7_countOf 10 = .ok (.invokevirtual 52, 3) := by decide +kernel
theorem dX7_countOf_13 : decode cX7_countOf 13 = .ok (.ireturn, 1) := by decide +kernel
theorem dX7_countOf_14 : decode cX7_countOf 14 = .ok (.aload_n 0, 1) := by decide +kernel
theorem dX7_countOf_15 : decode cX7_countOf 15 = .ok (.invokevirtual 130, 3) := by decide +kernel
theorem dX7_countOf_18 : decode cX7_countOf 18 = .ok (.iconst 0, 1) := by decide +kernel
theorem dX7_countOf_19 : decode cX7_countOf 19 = .ok (.istore_n 2, 1) := by decide +kernel
theorem dX7_countOf_20 : decode cX7_countOf 20 = .ok (.iconst 0, 1) := by decide +kernel
theorem dX7_countOf_21 : decode cX7_countOf 21 = .ok (.istore_n 3, 1) := by decide +kernel
theorem dX7_countOf_22 : decode cX7_countOf 22 = .ok (.iload_n 3, 1) := by decide +kernel
theorem dX7_countOf_23 : decode cX7_countOf 23 = .ok (.aload_n 0, 1) := by decide +kernel
theorem dX7_countOf_24 : decode cX7_countOf 24 = .ok (.getfield 100, 3) := by decide +kernel
theorem dX7_countOf_27 : decode cX7_countOf 27 = .ok (.if_icmp .ge 27, 3) := by decide +kernel
theorem dX7_countOf_30 : decode cX7_countOf 30 = .ok (.iload_n 2, 1) := by decide +kernel
theorem dX7_countOf_31 : decode cX7_countOf 31 = .ok (.aload_n 0, 1) := by decide +kernel
theorem dX7_countOf_32 : decode cX7_countOf 32 = .ok (.getfield 25, 3) := by decide +kernel
theorem dX7_countOf_35 : decode cX7_countOf 35 = .ok (.iload_n 3, 1) := by decide +kernel
theorem dX7_countOf_36 : decode cX7_countOf 36 = .ok (.iaload, 1) := by decide +kernel
theorem dX7_countOf_37 : decode cX7_countOf 37 = .ok (.iload_n 1, 1) := by decide +kernel
theorem dX7_countOf_38 : decode cX7_countOf 38 = .ok (.if_icmp .ne 7, 3) := by decide +kernel
theorem dX7_countOf_41 : decode cX7_countOf 41 = .ok (.iconst 1, 1) := by decide +kernel
theorem dX7_countOf_42 : decode cX7_countOf 42 = .ok (.goto 4, 3) := by decide +kernel
theorem dX7_countOf_45 : decode cX7_countOf 45 = .ok (.iconst 0, 1) := by decide +kernel
theorem dX7_countOf_46 : decode cX7_countOf 46 = .ok (.iadd, 1) := by decide +kernel
theorem dX7_countOf_47 : decode cX7_countOf 47 = .ok (.istore_n 2, 1) := by decide +kernel
theorem dX7_countOf_48 : decode cX7_countOf 48 = .ok (.iinc 3 1, 3) := by decide +kernel
theorem dX7_countOf_51 : decode cX7_countOf 51 = .ok (.goto (-29), 3) := by decide +kernel
theorem dX7_countOf_54 : decode cX7_countOf 54 = .ok (.iload_n 2, 1) := by decide +kernel
theorem dX7_countOf_55 : decode cX7_countOf 55 = .ok (.ireturn, 1) := by decide +kernel
theorem dX7_undo_0 : decode cX7_undo 0 = .ok (.aload_n 0, 1) := by decide +kernel
theorem dX7_undo_1 : decode cX7_undo 1 = .ok (.getfield 40, 3) := by decide +kernel
theorem dX7_undo_4 : decode cX7_undo 4 = .ok (.ifCond .ne 10, 3) := by decide +kernel
theorem dX7_undo_7 : decode cX7_undo 7 = .ok (.aload_n 0, 1) := by decide +kernel
theorem dX7_undo_8 : decode cX7_undo 8 = .ok (.bipush (-3), 2) := by decide +kernel
theorem dX7_undo_10 : decode cX7_undo 10 = .ok (.invokevirtual 52, 3) := by decide +kernel
theorem dX7_undo_13 : decode cX7_undo 13 = .ok (.ireturn, 1) := by decide +kernel
theorem dX7_undo_14 : decode cX7_undo 14 = .ok (.aload_n 0, 1) := by decide +kernel
theorem dX7_undo_15 : decode cX7_undo 15 = .ok (.dup, 1) := by decide +kernel
theorem dX7_undo_16 : decode cX7_undo 16 = .ok (.getfield 40, 3) := by decide +kernel
theorem dX7_undo_19 : decode cX7_undo 19 = .ok (.iconst 1, 1) := by decide +kernel
theorem dX7_undo_20 : decode cX7_undo 20 = .ok (.isub, 1) := by decide +kernel
theorem dX7_undo_21 : decode cX7_undo 21 = .ok (.putfield 40, 3) := by decide +kernel
theorem dX7_undo_24 : decode cX7_undo 24 = .ok (.iconst 0, 1) := by decide +kernel
theorem dX7_undo_25 : decode cX7_undo 25 = .ok (.istore_n 1, 1) := by decide +kernel
theorem dX7_undo_26 : decode cX7_undo 26 = .ok (.iload_n 1, 1) := by decide +kernel
theorem dX7_undo_27 : decode cX7_undo 27 = .ok (.sipush 161, 3) := by decide +kernel
theorem dX7_undo_30 : decode cX7_undo 30 = .ok (.if_icmp .ge 30, 3) := by decide +kernel
theorem dX7_undo_33 : decode cX7_undo 33 = .ok (.aload_n 0, 1) := by decide +kernel
theorem dX7_undo_34 : decode cX7_undo 34 = .ok (.getfield 7, 3) := by decide +kernel
theorem dX7_undo_37 : decode cX7_undo 37 = .ok (.iload_n 1, 1) := by decide +kernel
theorem dX7_undo_38 : decode cX7_undo 38 = .ok (.aload_n 0, 1) := by decide +kernel
theorem dX7_undo_39 : decode cX7_undo 39 = .ok (.getfield 13, 3) := by decide +kernel
theorem dX7_undo_42 : decode cX7_undo 42 = .ok (.sipush 161, 3) := by decide +kernel
theorem dX7_undo_45 : decode cX7_undo 45 = .ok (.aload_n 0, 1) := by decide +kernel
theorem dX7_undo_46 : decode cX7_undo 46 = .ok (.getfield 40, 3) := by decide +kernel
theorem dX7_undo_49 : decode cX7_undo 49 = .ok (.imul, 1) := by decide +kernel
theorem dX7_undo_50 : decode cX7_undo 50 = .ok (.iload_n 1, 1) := by decide +kernel
theorem dX7_undo_51 : decode cX7_undo 51 = .ok (.iadd, 1) := by decide +kernel
theorem dX7_undo_52 : decode cX7_undo 52 = .ok (.iaload, 1) := by decide +kernel
theorem dX7_undo_53 : decode cX7_undo 53 = .ok (.iastore, 1) := by decide +kernel
theorem dX7_undo_54 : decode cX7_undo 54 = .ok (.iinc 1 1, 3) := by decide +kernel
theorem dX7_undo_57 : decode cX7_undo 57 = .ok (.goto (-31), 3) := by decide +kernel
theorem dX7_undo_60 : decode cX7_undo 60 = .ok (.aload_n 0, 1) := by decide +kernel
theorem dX7_undo_61 : decode cX7_undo 61 = .ok (.getfield 40, 3) := by decide +kernel
theorem dX7_undo_64 : decode cX7_undo 64 = .ok (.ireturn, 1) := by decide +kernel
theorem dX7_errorCount_0 : decode cX7_errorCount 0 = .ok (.iload_n 1, 1) := by decide +kernel
theorem dX7_errorCount_1 : decode cX7_errorCount 1 = .ok (.iconst 0, 1) := by decide +kernel
theorem dX7_errorCount_2 : decode cX7_errorCount 2 = .ok (.iconst 2, 1) := by decide +kernel
theorem dX7_errorCount_3 : decode cX7_errorCount 3 = .ok (.invokestatic 44, 3) := by decide +kernel
theorem dX7_errorCount_6 : decode cX7_errorCount 6 = .ok (.ifCond .eq 12, 3) := by decide +kernel
theorem dX7_errorCount_9 : decode cX7_errorCount 9 = .ok (.aload_n 0, 1) := by decide +kernel
theorem dX7_errorCount_10 : decode cX7_errorCount 10 = .ok (.getfield 19, 3) := by decide +kernel
theorem dX7_errorCount_13 : decode cX7_errorCount 13 = .ok (.iload_n 1, 1) := by decide +kernel
theorem dX7_errorCount_14 : decode cX7_errorCount 14 = .ok (.iaload, 1) := by decide +kernel
theorem dX7_errorCount_15 : decode cX7_errorCount 15 = .ok (.goto 9, 3) := by decide +kernel
theorem dX7_errorCount_18 : decode cX7_errorCount 18 = .ok (.aload_n 0, 1) := by decide +kernel
theorem dX7_errorCount_19 : decode cX7_errorCount 19 = .ok (.bipush (-2), 2) := by decide +kernel
theorem dX7_errorCount_21 : decode cX7_errorCount 21 = .ok (.invokevirtual 52, 3) := by decide +kernel
theorem dX7_errorCount_24 : decode cX7_errorCount 24 = .ok (.ireturn, 1) := by decide +kernel
theorem dX7_mix_0 : decode cX7_mix 0 = .ok (.aload_n 0, 1) := by decide +kernel
theorem dX7_mix_1 : decode cX7_mix 1 = .ok (.ldc2_w 148, 3) := by decide +kernel
theorem dX7_mix_4 : decode cX7_mix 4 = .ok (.aload_n 0, 1) := by decide +kernel
theorem dX7_mix_5 : decode cX7_mix 5 = .ok (.getfield 150, 3) := by decide +kernel
theorem dX7_mix_8 : decode cX7_mix 8 = .ok (.lmul, 1) := by decide +kernel
theorem dX7_mix_9 : decode cX7_mix 9 = .ok (.iload_n 1, 1) := by decide +kernel
theorem dX7_mix_10 : decode cX7_mix 10 = .ok (.i2l, 1) := by decide +kernel
theorem dX7_mix_11 : decode cX7_mix 11 = .ok (.ladd, 1) := by decide +kernel
theorem dX7_mix_12 : decode cX7_mix 12 = .ok (.putfield 150, 3) := by decide +kernel
theorem dX7_mix_15 : decode cX7_mix 15 = .ok (.return_, 1) := by decide +kernel
theorem dX7_mixRules_0 : decode cX7_mixRules 0 = .ok (.iconst 0, 1) := by decide +kernel
theorem dX7_mixRules_1 : decode cX7_mixRules 1 = .ok (.istore_n 1, 1) := by decide +kernel
theorem dX7_mixRules_2 : decode cX7_mixRules 2 = .ok (.iload_n 1, 1) := by decide +kernel
theorem dX7_mixRules_3 : decode cX7_mixRules 3 = .ok (.bipush 6, 2) := by decide +kernel
theorem dX7_mixRules_5 : decode cX7_mixRules 5 = .ok (.if_icmp .ge 67, 3) := by decide +kernel
theorem dX7_mixRules_8 : decode cX7_mixRules 8 = .ok (.aload_n 0, 1) := by decide +kernel
theorem dX7_mixRules_9 : decode cX7_mixRules 9 = .ok (.aload_n 0, 1) := by decide +kernel
theorem dX7_mixRules_10 : decode cX7_mixRules 10 = .ok (.getfield 7, 3) := by decide +kernel
theorem dX7_mixRules_13 : decode cX7_mixRules 13 = .ok (.bipush 101, 2) := by decide +kernel
theorem dX7_mixRules_15 : decode cX7_mixRules 15 = .ok (.iload_n 1, 1) := by decide +kernel
theorem dX7_mixRules_16 : decode cX7_mixRules 16 = .ok (.iadd, 1) := by decide +kernel
theorem dX7_mixRules_17 : decode cX7_mixRules 17 = .ok (.iaload, 1) := by decide +kernel
theorem dX7_mixRules_18 : decode cX7_mixRules 18 = .ok (.invokevirtual 154, 3) := by decide +kernel
theorem dX7_mixRules_21 : decode cX7_mixRules 21 = .ok (.iconst 0, 1) := by decide +kernel
theorem dX7_mixRules_22 : decode cX7_mixRules 22 = .ok (.istore_n 2, 1) := by decide +kernel
theorem dX7_mixRules_23 : decode cX7_mixRules 23 = .ok (.iload_n 2, 1) := by decide +kernel
theorem dX7_mixRules_24 : decode cX7_mixRules 24 = .ok (.aload_n 0, 1) := by decide +kernel
theorem dX7_mixRules_25 : decode cX7_mixRules 25 = .ok (.getfield 7, 3) := by decide +kernel
theorem dX7_mixRules_28 : decode cX7_mixRules 28 = .ok (.bipush 101, 2) := by decide +kernel
theorem dX7_mixRules_30 : decode cX7_mixRules 30 = .ok (.iload_n 1, 1) := by decide +kernel
theorem dX7_mixRules_31 : decode cX7_mixRules 31 = .ok (.iadd, 1) := by decide +kernel
theorem dX7_mixRules_32 : decode cX7_mixRules 32 = .ok (.iaload, 1) := by decide +kernel
theorem dX7_mixRules_33 : decode cX7_mixRules 33 = .ok (.if_icmp .ge 19, 3) := by decide +kernel
theorem dX7_mixRules_36 : decode cX7_mixRules 36 = .ok (.aload_n 0, 1) := by decide +kernel
theorem dX7_mixRules_37 : decode cX7_mixRules 37 = .ok (.aload_n 0, 1) := by decide +kernel
theorem dX7_mixRules_38 : decode cX7_mixRules 38 = .ok (.iload_n 1, 1) := by decide +kernel
theorem dX7_mixRules_39 : decode cX7_mixRules 39 = .ok (.iload_n 2, 1) := by decide +kernel
theorem dX7_mixRules_40 : decode cX7_mixRules 40 = .ok (.invokevirtual 71, 3) := by decide +kernel
theorem dX7_mixRules_43 : decode cX7_mixRules 43 = .ok (.invokevirtual 154, 3) := by decide +kernel
theorem dX7_mixRules_46 : decode cX7_mixRules 46 = .ok (.iinc 2 1, 3) := by decide +kernel
theorem dX7_mixRules_49 : decode cX7_mixRules 49 = .ok (.goto (-26), 3) := by decide +kernel
theorem dX7_mixRules_52 : decode cX7_mixRules 52 = .ok (.aload_n 0, 1) := by decide +kernel
theorem dX7_mixRules_53 : decode cX7_mixRules 53 = .ok (.aload_n 0, 1) := by decide +kernel
theorem dX7_mixRules_54 : decode cX7_mixRules 54 = .ok (.getfield 7, 3) := by decide +kernel
theorem dX7_mixRules_57 : decode cX7_mixRules 57 = .ok (.sipush 155, 3) := by decide +kernel
theorem dX7_mixRules_60 : decode cX7_mixRules 60 = .ok (.iload_n 1, 1) := by decide +kernel
theorem dX7_mixRules_61 : decode cX7_mixRules 61 = .ok (.iadd, 1) := by decide +kernel
theorem dX7_mixRules_62 : decode cX7_mixRules 62 = .ok (.iaload, 1) := by decide +kernel
theorem dX7_mixRules_63 : decode cX7_mixRules 63 = .ok (.invokevirtual 154, 3) := by decide +kernel
theorem dX7_mixRules_66 : decode cX7_mixRules 66 = .ok (.iinc 1 1, 3) := by decide +kernel
theorem dX7_mixRules_69 : decode cX7_mixRules 69 = .ok (.goto (-67), 3) := by decide +kernel
theorem dX7_mixRules_72 : decode cX7_mixRules 72 = .ok (.return_, 1) := by decide +kernel
theorem dX7_digest_0 : decode cX7_digest 0 = .ok (.aload_n 0, 1) := by decide +kernel
theorem dX7_digest_1 : decode cX7_digest 1 = .ok (.invokevirtual 130, 3) := by decide +kernel
theorem dX7_digest_4 : decode cX7_digest 4 = .ok (.aload_n 0, 1) := by decide +kernel
theorem dX7_digest_5 : decode cX7_digest 5 = .ok (.ldc2_w 157, 3) := by decide +kernel
theorem dX7_digest_8 : decode cX7_digest 8 = .ok (.putfield 150, 3) := by decide +kernel
theorem dX7_digest_11 : decode cX7_digest 11 = .ok (.aload_n 0, 1) := by decide +kernel
theorem dX7_digest_12 : decode cX7_digest 12 = .ok (.aload_n 0, 1) := by decide +kernel
theorem dX7_digest_13 : decode cX7_digest 13 = .ok (.getfield 19, 3) := by decide +kernel
theorem dX7_digest_16 : decode cX7_digest 16 = .ok (.iconst 0, 1) := by decide +kernel
theorem dX7_digest_17 : decode cX7_digest 17 = .ok (.iaload, 1) := by decide +kernel
theorem dX7_digest_18 : decode cX7_digest 18 = .ok (.invokevirtual 154, 3) := by decide +kernel
theorem dX7_digest_21 : decode cX7_digest 21 = .ok (.aload_n 0, 1) := by decide +kernel
theorem dX7_digest_22 : decode cX7_digest 22 = .ok (.aload_n 0, 1) := by decide +kernel
theorem dX7_digest_23 : decode cX7_digest 23 = .ok (.getfield 19, 3) := by decide +kernel
theorem dX7_digest_26 : decode cX7_digest 26 = .ok (.iconst 1, 1) := by decide +kernel
theorem dX7_digest_27 : decode cX7_digest 27 = .ok (.iaload, 1) := by decide +kernel
theorem dX7_digest_28 : decode cX7_digest 28 = .ok (.invokevirtual 154, 3) := by decide +kernel
theorem dX7_digest_31 : decode cX7_digest 31 = .ok (.aload_n 0, 1) := by decide +kernel
theorem dX7_digest_32 : decode cX7_digest 32 = .ok (.aload_n 0, 1) := by decide +kernel
theorem dX7_digest_33 : decode cX7_digest 33 = .ok (.getfield 19, 3) := by decide +kernel
theorem dX7_digest_36 : decode cX7_digest 36 = .ok (.iconst 2, 1) := by decide +kernel
theorem dX7_digest_37 : decode cX7_digest 37 = .ok (.iaload, 1) := by decide +kernel
theorem dX7_digest_38 : decode cX7_digest 38 = .ok (.invokevirtual 154, 3) := by decide +kernel
theorem dX7_digest_41 : decode cX7_digest 41 = .ok (.aload_n 0, 1) := by decide +kernel
theorem dX7_digest_42 : decode cX7_digest 42 = .ok (.aload_n 0, 1) := by decide +kernel
theorem dX7_digest_43 : decode cX7_digest 43 = .ok (.getfield 62, 3) := by decide +kernel
theorem dX7_digest_46 : decode cX7_digest 46 = .ok (.invokevirtual 154, 3) := by decide +kernel
theorem dX7_digest_49 : decode cX7_digest 49 = .ok (.aload_n 0, 1) := by decide +kernel
theorem dX7_digest_50 : decode cX7_digest 50 = .ok (.aload_n 0, 1) := by decide +kernel
theorem dX7_digest_51 : decode cX7_digest 51 = .ok (.getfield 40, 3) := by decide +kernel
theorem dX7_digest_54 : decode cX7_digest 54 = .ok (.invokevirtual 154, 3) := by decide +kernel
theorem dX7_digest_57 : decode cX7_digest 57 = .ok (.aload_n 0, 1) := by decide +kernel
theorem dX7_digest_58 : decode cX7_digest 58 = .ok (.aload_n 0, 1) := by decide +kernel
theorem dX7_digest_59 : decode cX7_digest 59 = .ok (.getfield 7, 3) := by decide +kernel
theorem dX7_digest_62 : decode cX7_digest 62 = .ok (.iconst 0, 1) := by decide +kernel
theorem dX7_digest_63 : decode cX7_digest 63 = .ok (.iaload, 1) := by decide +kernel
theorem dX7_digest_64 : decode cX7_digest 64 = .ok (.invokevirtual 154, 3) := by decide +kernel
theorem dX7_digest_67 : decode cX7_digest 67 = .ok (.iconst 0, 1) := by decide +kernel
theorem dX7_digest_68 : decode cX7_digest 68 = .ok (.istore_n 1, 1) := by decide +kernel
theorem dX7_digest_69 : decode cX7_digest 69 = .ok (.iload_n 1, 1) := by decide +kernel
theorem dX7_digest_70 : decode cX7_digest 70 = .ok (.aload_n 0, 1) := by decide +kernel
theorem dX7_digest_71 : decode cX7_digest 71 = .ok (.getfield 7, 3) := by decide +kernel
theorem dX7_digest_74 : decode cX7_digest 74 = .ok (.iconst 0, 1) := by decide +kernel
theorem dX7_digest_75 : decode cX7_digest 75 = .ok (.iaload, 1) := by decide +kernel
theorem dX7_digest_76 : decode cX7_digest 76 = .ok (.if_icmp .ge 21, 3) := by decide +kernel
theorem dX7_digest_79 : decode cX7_digest 79 = .ok (.aload_n 0, 1) := by decide +kernel
theorem dX7_digest_80 : decode cX7_digest 80 = .ok (.aload_n 0, 1) := by decide +kernel
theorem dX7_digest_81 : decode cX7_digest 81 = .ok (.getfield 7, 3) := by decide +kernel
theorem dX7_digest_84 : decode cX7_digest 84 = .ok (.iconst 1, 1) := by decide +kernel
theorem dX7_digest_85 : decode cX7_digest 85 = .ok (.iload_n 1, 1) := by decide +kernel
theorem dX7_digest_86 : decode cX7_digest 86 = .ok (.iadd, 1) := by decide +kernel
theorem dX7_digest_87 : decode cX7_digest 87 = .ok (.iaload, 1) := by decide +kernel
theorem dX7_digest_88 : decode cX7_digest 88 = .ok (.invokevirtual 154, 3) := by decide +kernel
theorem dX7_digest_91 : decode cX7_digest 91 = .ok (.iinc 1 1, 3) := by decide +kernel
theorem dX7_digest_94 : decode cX7_digest 94 = .ok (.goto (-25), 3) := by decide +kernel
theorem dX7_digest_97 : decode cX7_digest 97 = .ok (.aload_n 0, 1) := by decide +kernel
theorem dX7_digest_98 : decode cX7_digest 98 = .ok (.invokevirtual 159, 3) := by decide +kernel
theorem dX7_digest_101 : decode cX7_digest 101 = .ok (.aload_n 0, 1) := by decide +kernel
theorem dX7_digest_102 : decode cX7_digest 102 = .ok (.aload_n 0, 1) := by decide +kernel
theorem dX7_digest_103 : decode cX7_digest 103 = .ok (.getfield 100, 3) := by decide +kernel
theorem dX7_digest_106 : decode cX7_digest 106 = .ok (.invokevirtual 154, 3) := by decide +kernel
theorem dX7_digest_109 : decode cX7_digest 109 = .ok (.iconst 0, 1) := by decide +kernel
theorem dX7_digest_110 : decode cX7_digest 110 = .ok (.istore_n 1, 1) := by decide +kernel
theorem dX7_digest_111 : decode cX7_digest 111 = .ok (.iload_n 1, 1) := by decide +kernel
theorem dX7_digest_112 : decode cX7_digest 112 = .ok (.aload_n 0, 1) := by decide +kernel
theorem dX7_digest_113 : decode cX7_digest 113 = .ok (.getfield 100, 3) := by decide +kernel
theorem dX7_digest_116 : decode cX7_digest 116 = .ok (.if_icmp .ge 73, 3) := by decide +kernel
theorem dX7_digest_119 : decode cX7_digest 119 = .ok (.aload_n 0, 1) := by decide +kernel
theorem dX7_digest_120 : decode cX7_digest 120 = .ok (.iload_n 1, 1) := by decide +kernel
theorem dX7_digest_121 : decode cX7_digest 121 = .ok (.invokevirtual 133, 3) := by decide +kernel
theorem dX7_digest_124 : decode cX7_digest 124 = .ok (.istore_n 2, 1) := by decide +kernel
theorem dX7_digest_125 : decode cX7_digest 125 = .ok (.aload_n 0, 1) := by decide +kernel
theorem dX7_digest_126 : decode cX7_digest 126 = .ok (.aload_n 0, 1) := by decide +kernel
theorem dX7_digest_127 : decode cX7_digest 127 = .ok (.getfield 25, 3) := by decide +kernel
theorem dX7_digest_130 : decode cX7_digest 130 = .ok (.iload_n 2, 1) := by decide +kernel
theorem dX7_digest_131 : decode cX7_digest 131 = .ok (.iaload, 1) := by decide +kernel
theorem dX7_digest_132 : decode cX7_digest 132 = .ok (.invokevirtual 154, 3) := by decide +kernel
theorem dX7_digest_135 : decode cX7_digest 135 = .ok (.aload_n 0, 1) := by decide +kernel
theorem dX7_digest_136 : decode cX7_digest 136 = .ok (.aload_n 0, 1) := by decide +kernel
theorem dX7_digest_137 : decode cX7_digest 137 = .ok (.getfield 28, 3) := by decide +kernel
theorem dX7_digest_140 : decode cX7_digest 140 = .ok (.iload_n 2, 1) := by decide +kernel
theorem dX7_digest_141 : decode cX7_digest 141 = .ok (.iaload, 1) := by decide +kernel
theorem dX7_digest_142 : decode cX7_digest 142 = .ok (.invokevirtual 154, 3) := by decide +kernel
theorem dX7_digest_145 : decode cX7_digest 145 = .ok (.aload_n 0, 1) := by decide +kernel
theorem dX7_digest_146 : decode cX7_digest 146 = .ok (.aload_n 0, 1) := by decide +kernel
theorem dX7_digest_147 : decode cX7_digest 147 = .ok (.iload_n 2, 1) := by decide +kernel
theorem dX7_digest_148 : decode cX7_digest 148 = .ok (.invokevirtual 136, 3) := by decide +kernel
theorem dX7_digest_151 : decode cX7_digest 151 = .ok (.invokevirtual 154, 3) := by decide +kernel
theorem dX7_digest_154 : decode cX7_digest 154 = .ok (.aload_n 0, 1) := by decide +kernel
theorem dX7_digest_155 : decode cX7_digest 155 = .ok (.aload_n 0, 1) := by decide +kernel
theorem dX7_digest_156 : decode cX7_digest 156 = .ok (.iload_n 2, 1) := by decide +kernel
theorem dX7_digest_157 : decode cX7_digest 157 = .ok (.invokevirtual 139, 3) := by decide +kernel
theorem dX7_digest_160 : decode cX7_digest 160 = .ok (.invokevirtual 154, 3) := by decide +kernel
theorem dX7_digest_163 : decode cX7_digest 163 = .ok (.aload_n 0, 1) := by decide +kernel
theorem dX7_digest_164 : decode cX7_digest 164 = .ok (.aload_n 0, 1) := by decide +kernel
theorem dX7_digest_165 : decode cX7_digest 165 = .ok (.getfield 34, 3) := by decide +kernel
theorem dX7_digest_168 : decode cX7_digest 168 = .ok (.iload_n 2, 1) := by decide +kernel
theorem dX7_digest_169 : decode cX7_digest 169 = .ok (.iaload, 1) := by decide +kernel
theorem dX7_digest_170 : decode cX7_digest 170 = .ok (.invokevirtual 154, 3) := by decide +kernel
theorem dX7_digest_173 : decode cX7_digest 173 = .ok (.aload_n 0, 1) := by decide +kernel
theorem dX7_digest_174 : decode cX7_digest 174 = .ok (.aload_n 0, 1) := by decide +kernel
theorem dX7_digest_175 : decode cX7_digest 175 = .ok (.getfield 37, 3) := by decide +kernel
theorem dX7_digest_178 : decode cX7_digest 178 = .ok (.iload_n 2, 1) := by decide +kernel
theorem dX7_digest_179 : decode cX7_digest 179 = .ok (.iaload, 1) := by decide +kernel
theorem dX7_digest_180 : decode cX7_digest 180 = .ok (.invokevirtual 154, 3) := by decide +kernel
theorem dX7_digest_183 : decode cX7_digest 183 = .ok (.iinc 1 1, 3) := by decide +kernel
theorem dX7_digest_186 : decode cX7_digest 186 = .ok (.goto (-75), 3) := by decide +kernel
theorem dX7_digest_189 : decode cX7_digest 189 = .ok (.aload_n 0, 1) := by decide +kernel
theorem dX7_digest_190 : decode cX7_digest 190 = .ok (.aload_n 0, 1) := by decide +kernel
theorem dX7_digest_191 : decode cX7_digest 191 = .ok (.getfield 114, 3) := by decide +kernel
theorem dX7_digest_194 : decode cX7_digest 194 = .ok (.invokevirtual 154, 3) := by decide +kernel
theorem dX7_digest_197 : decode cX7_digest 197 = .ok (.aload_n 0, 1) := by decide +kernel
theorem dX7_digest_198 : decode cX7_digest 198 = .ok (.aload_n 0, 1) := by decide +kernel
theorem dX7_digest_199 : decode cX7_digest 199 = .ok (.getfield 117, 3) := by decide +kernel
theorem dX7_digest_202 : decode cX7_digest 202 = .ok (.invokevirtual 154, 3) := by decide +kernel
theorem dX7_digest_205 : decode cX7_digest 205 = .ok (.aload_n 0, 1) := by decide +kernel
theorem dX7_digest_206 : decode cX7_digest 206 = .ok (.getfield 150, 3) := by decide +kernel
theorem dX7_digest_209 : decode cX7_digest 209 = .ok (.lreturn, 1) := by decide +kernel
theorem dJ9_max_7cf53_0 : decode cJ9_max_7cf53 0 = .ok (.iload_n 0, 1) := by decide +kernel
theorem dJ9_max_7cf53_1 : decode cJ9_max_7cf53 1 = .ok (.iload_n 1, 1) := by decide +kernel
theorem dJ9_max_7cf53_2 : decode cJ9_max_7cf53 2 = .ok (.if_icmp .lt 7, 3) := by decide +kernel
theorem dJ9_max_7cf53_5 : decode cJ9_max_7cf53 5 = .ok (.iload_n 0, 1) := by decide +kernel
theorem dJ9_max_7cf53_6 : decode cJ9_max_7cf53 6 = .ok (.goto 4, 3) := by decide +kernel
theorem dJ9_max_7cf53_9 : decode cJ9_max_7cf53 9 = .ok (.iload_n 1, 1) := by decide +kernel
theorem dJ9_max_7cf53_10 : decode cJ9_max_7cf53 10 = .ok (.ireturn, 1) := by decide +kernel
theorem dJ9_min_7cf53_0 : decode cJ9_min_7cf53 0 = .ok (.iload_n 0, 1) := by decide +kernel
theorem dJ9_min_7cf53_1 : decode cJ9_min_7cf53 1 = .ok (.iload_n 1, 1) := by decide +kernel
theorem dJ9_min_7cf53_2 : decode cJ9_min_7cf53 2 = .ok (.if_icmp .gt 7, 3) := by decide +kernel
theorem dJ9_min_7cf53_5 : decode cJ9_min_7cf53 5 = .ok (.iload_n 0, 1) := by decide +kernel
theorem dJ9_min_7cf53_6 : decode cJ9_min_7cf53 6 = .ok (.goto 4, 3) := by decide +kernel
theorem dJ9_min_7cf53_9 : decode cJ9_min_7cf53 9 = .ok (.iload_n 1, 1) := by decide +kernel
theorem dJ9_min_7cf53_10 : decode cJ9_min_7cf53 10 = .ok (.ireturn, 1) := by decide +kernel
theorem dL_law_0 : decode cL_law 0 = .ok (.new 7, 3) := by decide +kernel
theorem dL_law_3 : decode cL_law 3 = .ok (.dup, 1) := by decide +kernel
theorem dL_law_4 : decode cL_law 4 = .ok (.invokespecial 9, 3) := by decide +kernel
theorem dL_law_7 : decode cL_law 7 = .ok (.astore_n 1, 1) := by decide +kernel
theorem dL_law_8 : decode cL_law 8 = .ok (.new 10, 3) := by decide +kernel
theorem dL_law_11 : decode cL_law 11 = .ok (.dup, 1) := by decide +kernel
theorem dL_law_12 : decode cL_law 12 = .ok (.invokespecial 12, 3) := by decide +kernel
theorem dL_law_15 : decode cL_law 15 = .ok (.astore_n 2, 1) := by decide +kernel
theorem dL_law_16 : decode cL_law 16 = .ok (.iconst 0, 1) := by decide +kernel
theorem dL_law_17 : decode cL_law 17 = .ok (.istore_n 3, 1) := by decide +kernel
theorem dL_law_18 : decode cL_law 18 = .ok (.iload_n 3, 1) := by decide +kernel
theorem dL_law_19 : decode cL_law 19 = .ok (.aload_n 0, 1) := by decide +kernel
theorem dL_law_20 : decode cL_law 20 = .ok (.arraylength, 1) := by decide +kernel
theorem dL_law_21 : decode cL_law 21 = .ok (.iconst 3, 1) := by decide +kernel
theorem dL_law_22 : decode cL_law 22 = .ok (.isub, 1) := by decide +kernel
theorem dL_law_23 : decode cL_law 23 = .ok (.if_icmp .gt 768, 3) := by decide +kernel
theorem dL_law_26 : decode cL_law 26 = .ok (.aload_n 0, 1) := by decide +kernel
theorem dL_law_27 : decode cL_law 27 = .ok (.iload_n 3, 1) := by decide +kernel
theorem dL_law_28 : decode cL_law 28 = .ok (.iaload, 1) := by decide +kernel
theorem dL_law_29 : decode cL_law 29 = .ok (.bipush 31, 2) := by decide +kernel
theorem dL_law_31 : decode cL_law 31 = .ok (.iand, 1) := by decide +kernel
theorem dL_law_32 : decode cL_law 32 = .ok (.tableswitch 753 0 27 #[128, 161, 194, 227, 240, 263, 286, 299, 322, 345, 378, 411, 444, 457, 470, 493, 516, 539, 562, 585, 608, 631, 654, 667, 680, 703, 716, 739], 128) := by decide +kernel
theorem dL_law_160 : decode cL_law 160 = .ok (.aload_n 1, 1) := by decide +kernel
theorem dL_law_161 : decode cL_law 161 = .ok (.aload_n 0, 1) := by decide +kernel
theorem dL_law_162 : decode cL_law 162 = .ok (.iload_n 3, 1) := by decide +kernel
theorem dL_law_163 : decode cL_law 163 = .ok (.iconst 1, 1) := by decide +kernel
theorem dL_law_164 : decode cL_law 164 = .ok (.iadd, 1) := by decide +kernel
theorem dL_law_165 : decode cL_law 165 = .ok (.iaload, 1) := by decide +kernel
theorem dL_law_166 : decode cL_law 166 = .ok (.aload_n 0, 1) := by decide +kernel
theorem dL_law_167 : decode cL_law 167 = .ok (.iload_n 3, 1) := by decide +kernel
theorem dL_law_168 : decode cL_law 168 = .ok (.iconst 2, 1) := by decide +kernel
theorem dL_law_169 : decode cL_law 169 = .ok (.iadd, 1) := by decide +kernel
theorem dL_law_170 : decode cL_law 170 = .ok (.iaload, 1) := by decide +kernel
theorem dL_law_171 : decode cL_law 171 = .ok (.invokevirtual 13, 3) := by decide +kernel
theorem dL_law_174 : decode cL_law 174 = .ok (.aload_n 2, 1) := by decide +kernel
theorem dL_law_175 : decode cL_law 175 = .ok (.aload_n 0, 1) := by decide +kernel
theorem dL_law_176 : decode cL_law 176 = .ok (.iload_n 3, 1) := by decide +kernel
theorem dL_law_177 : decode cL_law 177 = .ok (.iconst 1, 1) := by decide +kernel
theorem dL_law_178 : decode cL_law 178 = .ok (.iadd, 1) := by decide +kernel
theorem dL_law_179 : decode cL_law 179 = .ok (.iaload, 1) := by decide +kernel
theorem dL_law_180 : decode cL_law 180 = .ok (.aload_n 0, 1) := by decide +kernel
theorem dL_law_181 : decode cL_law 181 = .ok (.iload_n 3, 1) := by decide +kernel
theorem dL_law_182 : decode cL_law 182 = .ok (.iconst 2, 1) := by decide +kernel
theorem dL_law_183 : decode cL_law 183 = .ok (.iadd, 1) := by decide +kernel
theorem dL_law_184 : decode cL_law 184 = .ok (.iaload, 1) := by decide +kernel
theorem dL_law_185 : decode cL_law 185 = .ok (.invokevirtual 17, 3) := by decide +kernel
theorem dL_law_188 : decode cL_law 188 = .ok (.if_icmp .eq 597, 3) := by decide +kernel
theorem dL_law_191 : decode cL_law 191 = .ok (.iconst 0, 1) := by decide +kernel
theorem dL_law_192 : decode cL_law 192 = .ok (.ireturn, 1) := by decide +kernel
theorem dL_law_193 : decode cL_law 193 = .ok (.aload_n 1, 1) := by decide +kernel
theorem dL_law_194 : decode cL_law 194 = .ok (.aload_n 0, 1) := by decide +kernel
theorem dL_law_195 : decode cL_law 195 = .ok (.iload_n 3, 1) := by decide +kernel
theorem dL_law_196 : decode cL_law 196 = .ok (.iconst 1, 1) := by decide +kernel
theorem dL_law_197 : decode cL_law 197 = .ok (.iadd, 1) := by decide +kernel
theorem dL_law_198 : decode cL_law 198 = .ok (.iaload, 1) := by decide +kernel
theorem dL_law_199 : decode cL_law 199 = .ok (.aload_n 0, 1) := by decide +kernel
theorem dL_law_200 : decode cL_law 200 = .ok (.iload_n 3, 1) := by decide +kernel
theorem dL_law_201 : decode cL_law 201 = .ok (.iconst 2, 1) := by decide +kernel
theorem dL_law_202 : decode cL_law 202 = .ok (.iadd, 1) := by decide +kernel
theorem dL_law_203 : decode cL_law 203 = .ok (.iaload, 1) := by decide +kernel
theorem dL_law_204 : decode cL_law 204 = .ok (.invokevirtual 18, 3) := by decide +kernel
theorem dL_law_207 : decode cL_law 207 = .ok (.aload_n 2, 1) := by decide +kernel
theorem dL_law_208 : decode cL_law 208 = .ok (.aload_n 0, 1) := by decide +kernel
theorem dL_law_209 : decode cL_law 209 = .ok (.iload_n 3, 1) := by decide +kernel
theorem dL_law_210 : decode cL_law 210 = .ok (.iconst 1, 1) := by decide +kernel
theorem dL_law_211 : decode cL_law 211 = .ok (.iadd, 1) := by decide +kernel
theorem dL_law_212 : decode cL_law 212 = .ok (.iaload, 1) := by decide +kernel
theorem dL_law_213 : decode cL_law 213 = .ok (.aload_n 0, 1) := by decide +kernel
theorem dL_law_214 : decode cL_law 214 = .ok (.iload_n 3, 1) := by decide +kernel
theorem dL_law_215 : decode cL_law 215 = .ok (.iconst 2, 1) := by decide +kernel
theorem dL_law_216 : decode cL_law 216 = .ok (.iadd, 1) := by decide +kernel
theorem dL_law_217 : decode cL_law 217 = .ok (.iaload, 1) := by decide +kernel
theorem dL_law_218 : decode cL_law 218 = .ok (.invokevirtual 21, 3) := by decide +kernel
theorem dL_law_221 : decode cL_law 221 = .ok (.if_icmp .eq 564, 3) := by decide +kernel
theorem dL_law_224 : decode cL_law 224 = .ok (.iconst 0, 1) := by decide +kernel
theorem dL_law_225 : decode cL_law 225 = .ok (.ireturn, 1) := by decide +kernel
theorem dL_law_226 : decode cL_law 226 = .ok (.aload_n 1, 1) := by decide +kernel
theorem dL_law_227 : decode cL_law 227 = .ok (.aload_n 0, 1) := by decide +kernel
theorem dL_law_228 : decode cL_law 228 = .ok (.iload_n 3, 1) := by decide +kernel
theorem dL_law_229 : decode cL_law 229 = .ok (.iconst 1, 1) := by decide +kernel
theorem dL_law_230 : decode cL_law 230 = .ok (.iadd, 1) := by decide +kernel
theorem dL_law_231 : decode cL_law 231 = .ok (.iaload, 1) := by decide +kernel
theorem dL_law_232 : decode cL_law 232 = .ok (.aload_n 0, 1) := by decide +kernel
theorem dL_law_233 : decode cL_law 233 = .ok (.iload_n 3, 1) := by decide +kernel
theorem dL_law_234 : decode cL_law 234 = .ok (.iconst 2, 1) := by decide +kernel
theorem dL_law_235 : decode cL_law 235 = .ok (.iadd, 1) := by decide +kernel
theorem dL_law_236 : decode cL_law 236 = .ok (.iaload, 1) := by decide +kernel
theorem dL_law_237 : decode cL_law 237 = .ok (.invokevirtual 22, 3) := by decide +kernel
theorem dL_law_240 : decode cL_law 240 = .ok (.aload_n 2, 1) := by decide +kernel
theorem dL_law_241 : decode cL_law 241 = .ok (.aload_n 0, 1) := by decide +kernel
theorem dL_law_242 : decode cL_law 242 = .ok (.iload_n 3, 1) := by decide +kernel
theorem dL_law_243 : decode cL_law 243 = .ok (.iconst 1, 1) := by decide +kernel
theorem dL_law_244 : decode cL_law 244 = .ok (.iadd, 1) := by decide +kernel
theorem dL_law_245 : decode cL_law 245 = .ok (.iaload, 1) := by decide +kernel
theorem dL_law_246 : decode cL_law 246 = .ok (.aload_n 0, 1) := by decide +kernel
theorem dL_law_247 : decode cL_law 247 = .ok (.iload_n 3, 1) := by decide +kernel
theorem dL_law_248 : decode cL_law 248 = .ok (.iconst 2, 1) := by decide +kernel
theorem dL_law_249 : decode cL_law 249 = .ok (.iadd, 1) := by decide +kernel
theorem dL_law_250 : decode cL_law 250 = .ok (.iaload, 1) := by decide +kernel
theorem dL_law_251 : decode cL_law 251 = .ok (.invokevirtual 25, 3) := by decide +kernel
theorem dL_law_254 : decode cL_law 254 = .ok (.if_icmp .eq 531, 3) := by decide +kernel
theorem dL_law_257 : decode cL_law 257 = .ok (.iconst 0, 1) := by decide +kernel
theorem dL_law_258 : decode cL_law 258 = .ok (.ireturn, 1) := by decide +kernel
theorem dL_law_259 : decode cL_law 259 = .ok (.aload_n 1, 1) := by decide +kernel
theorem dL_law_260 : decode cL_law 260 = .ok (.invokevirtual 26, 3) := by decide +kernel
theorem dL_law_263 : decode cL_law 263 = .ok (.aload_n 2, 1) := by decide +kernel
theorem dL_law_264 : decode cL_law 264 = .ok (.invokevirtual 30, 3) := by decide +kernel
theorem dL_law_267 : decode cL_law 267 = .ok (.if_icmp .eq 518, 3) := by decide +kernel
theorem dL_law_270 : decode cL_law 270 = .ok (.iconst 0, 1) := by decide +kernel
theorem dL_law_271 : decode cL_law 271 = .ok (.ireturn, 1) := by decide +kernel
theorem dL_law_272 : decode cL_law 272 = .ok (.aload_n 1, 1) := by decide +kernel
theorem dL_law_273 : decode cL_law 273 = .ok (.aload_n 0, 1) := by decide +kernel
theorem dL_law_274 : decode cL_law 274 = .ok (.iload_n 3, 1) := by decide +kernel
theorem dL_law_275 : decode cL_law 275 = .ok (.iconst 1, 1) := by decide +kernel
theorem dL_law_276 : decode cL_law 276 = .ok (.iadd, 1) := by decide +kernel
theorem dL_law_277 : decode cL_law 277 = .ok (.iaload, 1) := by decide +kernel
theorem dL_law_278 : decode cL_law 278 = .ok (.invokevirtual 31, 3) := by decide +kernel
theorem dL_law_281 : decode cL_law 281 = .ok (.aload_n 2, 1) := by decide +kernel
theorem dL_law_282 : decode cL_law 282 = .ok (.aload_n 0, 1) := by decide +kernel
theorem dL_law_283 : decode cL_law 283 = .ok (.iload_n 3, 1) := by decide +kernel
theorem dL_law_284 : decode cL_law 284 = .ok (.iconst 1, 1) := by decide +kernel
theorem dL_law_285 : decode cL_law 285 = .ok (.iadd, 1) := by decide +kernel
theorem dL_law_286 : decode cL_law 286 = .ok (.iaload, 1) := by decide +kernel
theorem dL_law_287 : decode cL_law 287 = .ok (.invokevirtual 35, 3) := by decide +kernel
theorem dL_law_290 : decode cL_law 290 = .ok (.if_icmp .eq 495, 3) := by decide +kernel
theorem dL_law_293 : decode cL_law 293 = .ok (.iconst 0, 1) := by decide +kernel
theorem dL_law_294 : decode cL_law 294 = .ok (.ireturn, 1) := by decide +kernel
theorem dL_law_295 : decode cL_law 295 = .ok (.aload_n 1, 1) := by decide +kernel
theorem dL_law_296 : decode cL_law 296 = .ok (.aload_n 0, 1) := by decide +kernel
theorem dL_law_297 : decode cL_law 297 = .ok (.iload_n 3, 1) := by decide +kernel
theorem dL_law_298 : decode cL_law 298 = .ok (.iconst 1, 1) := by decide +kernel
theorem dL_law_299 : decode cL_law 299 = .ok (.iadd, 1) := by decide +kernel
theorem dL_law_300 : decode cL_law 300 = .ok (.iaload, 1) := by decide +kernel
theorem dL_law_301 : decode cL_law 301 = .ok (.invokevirtual 36, 3) := by decide +kernel
theorem dL_law_304 : decode cL_law 304 = .ok (.aload_n 2, 1) := by decide +kernel
theorem dL_law_305 : decode cL_law 305 = .ok (.aload_n 0, 1) := by decide +kernel
theorem dL_law_306 : decode cL_law 306 = .ok (.iload_n 3, 1) := by decide +kernel
theorem dL_law_307 : decode cL_law 307 = .ok (.iconst 1, 1) := by decide +kernel
theorem dL_law_308 : decode cL_law 308 = .ok (.iadd, 1) := by decide +kernel
theorem dL_law_309 : decode cL_law 309 = .ok (.iaload, 1) := by decide +kernel
theorem dL_law_310 : decode cL_law 310 = .ok (.invokevirtual 39, 3) := by decide +kernel
theorem dL_law_313 : decode cL_law 313 = .ok (.if_icmp .eq 472, 3) := by decide +kernel
theorem dL_law_316 : decode cL_law 316 = .ok (.iconst 0, 1) := by decide +kernel
theorem dL_law_317 : decode cL_law 317 = .ok (.ireturn, 1) := by decide +kernel
theorem dL_law_318 : decode cL_law 318 = .ok (.aload_n 1, 1) := by decide +kernel
theorem dL_law_319 : decode cL_law 319 = .ok (.invokevirtual 40, 3) := by decide +kernel
theorem dL_law_322 : decode cL_law 322 = .ok (.aload_n 2, 1) := by decide +kernel
theorem dL_law_323 : decode cL_law 323 = .ok (.invokevirtual 43, 3) := by decide +kernel
theorem dL_law_326 : decode cL_law 326 = .ok (.if_icmp .eq 459, 3) := by decide +kernel
theorem dL_law_329 : decode cL_law 329 = .ok (.iconst 0, 1) := by decide +kernel
theorem dL_law_330 : decode cL_law 330 = .ok (.ireturn, 1) := by decide +kernel
theorem dL_law_331 : decode cL_law 331 = .ok (.aload_n 1, 1) := by decide +kernel
theorem dL_law_332 : decode cL_law 332 = .ok (.aload_n 0, 1) := by decide +kernel
theorem dL_law_333 : decode cL_law 333 = .ok (.iload_n 3, 1) := by decide +kernel
theorem dL_law_334 : decode cL_law 334 = .ok (.iconst 1, 1) := by decide +kernel
theorem dL_law_335 : decode cL_law 335 = .ok (.iadd, 1) := by decide +kernel
theorem dL_law_336 : decode cL_law 336 = .ok (.iaload, 1) := by decide +kernel
theorem dL_law_337 : decode cL_law 337 = .ok (.invokevirtual 44, 3) := by decide +kernel
theorem dL_law_340 : decode cL_law 340 = .ok (.aload_n 2, 1) := by decide +kernel
theorem dL_law_341 : decode cL_law 341 = .ok (.aload_n 0, 1) := by decide +kernel
theorem dL_law_342 : decode cL_law 342 = .ok (.iload_n 3, 1) := by decide +kernel
theorem dL_law_343 : decode cL_law 343 = .ok (.iconst 1, 1) := by decide +kernel
theorem dL_law_344 : decode cL_law 344 = .ok (.iadd, 1) := by decide +kernel
theorem dL_law_345 : decode cL_law 345 = .ok (.iaload, 1) := by decide +kernel
theorem dL_law_346 : decode cL_law 346 = .ok (.invokevirtual 47, 3) := by decide +kernel
theorem dL_law_349 : decode cL_law 349 = .ok (.if_icmp .eq 436, 3) := by decide +kernel
theorem dL_law_352 : decode cL_law 352 = .ok (.iconst 0, 1) := by decide +kernel
theorem dL_law_353 : decode cL_law 353 = .ok (.ireturn, 1) := by decide +kernel
theorem dL_law_354 : decode cL_law 354 = .ok (.aload_n 1, 1) := by decide +kernel
theorem dL_law_355 : decode cL_law 355 = .ok (.aload_n 0, 1) := by decide +kernel
theorem dL_law_356 : decode cL_law 356 = .ok (.iload_n 3, 1) := by decide +kernel
theorem dL_law_357 : decode cL_law 357 = .ok (.iconst 1, 1) := by decide +kernel
theorem dL_law_358 : decode cL_law 358 = .ok (.iadd, 1) := by decide +kernel
theorem dL_law_359 : decode cL_law 359 = .ok (.iaload, 1) := by decide +kernel
theorem dL_law_360 : decode cL_law 360 = .ok (.invokevirtual 48, 3) := by decide +kernel
theorem dL_law_363 : decode cL_law 363 = .ok (.aload_n 2, 1) := by decide +kernel
theorem dL_law_364 : decode cL_law 364 = .ok (.aload_n 0, 1) := by decide +kernel
theorem dL_law_365 : decode cL_law 365 = .ok (.iload_n 3, 1) := by decide +kernel
theorem dL_law_366 : decode cL_law 366 = .ok (.iconst 1, 1) := by decide +kernel
theorem dL_law_367 : decode cL_law 367 = .ok (.iadd, 1) := by decide +kernel
theorem dL_law_368 : decode cL_law 368 = .ok (.iaload, 1) := by decide +kernel
theorem dL_law_369 : decode cL_law 369 = .ok (.invokevirtual 51, 3) := by decide +kernel
theorem dL_law_372 : decode cL_law 372 = .ok (.if_icmp .eq 413, 3) := by decide +kernel
theorem dL_law_375 : decode cL_law 375 = .ok (.iconst 0, 1) := by decide +kernel
theorem dL_law_376 : decode cL_law 376 = .ok (.ireturn, 1) := by decide +kernel
theorem dL_law_377 : decode cL_law 377 = .ok (.aload_n 1, 1) := by decide +kernel
theorem dL_law_378 : decode cL_law 378 = .ok (.aload_n 0, 1) := by decide +kernel
theorem dL_law_379 : decode cL_law 379 = .ok (.iload_n 3, 1) := by decide +kernel
theorem dL_law_380 : decode cL_law 380 = .ok (.iconst 1, 1) := by decide +kernel
theorem dL_law_381 : decode cL_law 381 = .ok (.iadd, 1) := by decide +kernel
theorem dL_law_382 : decode cL_law 382 = .ok (.iaload, 1) := by decide +kernel
theorem dL_law_383 : decode cL_law 383 = .ok (.aload_n 0, 1) := by decide +kernel
theorem dL_law_384 : decode cL_law 384 = .ok (.iload_n 3, 1) := by decide +kernel
theorem dL_law_385 : decode cL_law 385 = .ok (.iconst 2, 1) := by decide +kernel
theorem dL_law_386 : decode cL_law 386 = .ok (.iadd, 1) := by decide +kernel
theorem dL_law_387 : decode cL_law 387 = .ok (.iaload, 1) := by decide +kernel
theorem dL_law_388 : decode cL_law 388 = .ok (.invokevirtual 52, 3) := by decide +kernel
theorem dL_law_391 : decode cL_law 391 = .ok (.aload_n 2, 1) := by decide +kernel
theorem dL_law_392 : decode cL_law 392 = .ok (.aload_n 0, 1) := by decide +kernel
theorem dL_law_393 : decode cL_law 393 = .ok (.iload_n 3, 1) := by decide +kernel
theorem dL_law_394 : decode cL_law 394 = .ok (.iconst 1, 1) := by decide +kernel
theorem dL_law_395 : decode cL_law 395 = .ok (.iadd, 1) := by decide +kernel
theorem dL_law_396 : decode cL_law 396 = .ok (.iaload, 1) := by decide +kernel
theorem dL_law_397 : decode cL_law 397 = .ok (.aload_n 0, 1) := by decide +kernel
theorem dL_law_398 : decode cL_law 398 = .ok (.iload_n 3, 1) := by decide +kernel
theorem dL_law_399 : decode cL_law 399 = .ok (.iconst 2, 1) := by decide +kernel
theorem dL_law_400 : decode cL_law 400 = .ok (.iadd, 1) := by decide +kernel
theorem dL_law_401 : decode cL_law 401 = .ok (.iaload, 1) := by decide +kernel
theorem dL_law_402 : decode cL_law 402 = .ok (.invokevirtual 55, 3) := by decide +kernel
theorem dL_law_405 : decode cL_law 405 = .ok (.if_icmp .eq 380, 3) := by decide +kernel
theorem dL_law_408 : decode cL_law 408 = .ok (.iconst 0, 1) := by decide +kernel
theorem dL_law_409 : decode cL_law 409 = .ok (.ireturn, 1) := by decide +kernel
theorem dL_law_410 : decode cL_law 410 = .ok (.aload_n 1, 1) := by decide +kernel
theorem dL_law_411 : decode cL_law 411 = .ok (.aload_n 0, 1) := by decide +kernel
theorem dL_law_412 : decode cL_law 412 = .ok (.iload_n 3, 1) := by decide +kernel
theorem dL_law_413 : decode cL_law 413 = .ok (.iconst 1, 1) := by decide +kernel
theorem dL_law_414 : decode cL_law 414 = .ok (.iadd, 1) := by decide +kernel
theorem dL_law_415 : decode cL_law 415 = .ok (.iaload, 1) := by decide +kernel
theorem dL_law_416 : decode cL_law 416 = .ok (.aload_n 0, 1) := by decide +kernel
theorem dL_law_417 : decode cL_law 417 = .ok (.iload_n 3, 1) := by decide +kernel
theorem dL_law_418 : decode cL_law 418 = .ok (.iconst 2, 1) := by decide +kernel
theorem dL_law_419 : decode cL_law 419 = .ok (.iadd, 1) := by decide +kernel
theorem dL_law_420 : decode cL_law 420 = .ok (.iaload, 1) := by decide +kernel
theorem dL_law_421 : decode cL_law 421 = .ok (.invokevirtual 56, 3) := by decide +kernel
theorem dL_law_424 : decode cL_law 424 = .ok (.aload_n 2, 1) := by decide +kernel
theorem dL_law_425 : decode cL_law 425 = .ok (.aload_n 0, 1) := by decide +kernel
theorem dL_law_426 : decode cL_law 426 = .ok (.iload_n 3, 1) := by decide +kernel
theorem dL_law_427 : decode cL_law 427 = .ok (.iconst 1, 1) := by decide +kernel
theorem dL_law_428 : decode cL_law 428 = .ok (.iadd, 1) := by decide +kernel
theorem dL_law_429 : decode cL_law 429 = .ok (.iaload, 1) := by decide +kernel
theorem dL_law_430 : decode cL_law 430 = .ok (.aload_n 0, 1) := by decide +kernel
theorem dL_law_431 : decode cL_law 431 = .ok (.iload_n 3, 1) := by decide +kernel
theorem dL_law_432 : decode cL_law 432 = .ok (.iconst 2, 1) := by decide +kernel
theorem dL_law_433 : decode cL_law 433 = .ok (.iadd, 1) := by decide +kernel
theorem dL_law_434 : decode cL_law 434 = .ok (.iaload, 1) := by decide +kernel
theorem dL_law_435 : decode cL_law 435 = .ok (.invokevirtual 59, 3) := by decide +kernel
theorem dL_law_438 : decode cL_law 438 = .ok (.if_icmp .eq 347, 3) := by decide +kernel
theorem dL_law_441 : decode cL_law 441 = .ok (.iconst 0, 1) := by decide +kernel
theorem dL_law_442 : decode cL_law 442 = .ok (.ireturn, 1) := by decide +kernel
theorem dL_law_443 : decode cL_law 443 = .ok (.aload_n 1, 1) := by decide +kernel
theorem dL_law_444 : decode cL_law 444 = .ok (.aload_n 0, 1) := by decide +kernel
theorem dL_law_445 : decode cL_law 445 = .ok (.iload_n 3, 1) := by decide +kernel
theorem dL_law_446 : decode cL_law 446 = .ok (.iconst 1, 1) := by decide +kernel
theorem dL_law_447 : decode cL_law 447 = .ok (.iadd, 1) := by decide +kernel
theorem dL_law_448 : decode cL_law 448 = .ok (.iaload, 1) := by decide +kernel
theorem dL_law_449 : decode cL_law 449 = .ok (.aload_n 0, 1) := by decide +kernel
theorem dL_law_450 : decode cL_law 450 = .ok (.iload_n 3, 1) := by decide +kernel
theorem dL_law_451 : decode cL_law 451 = .ok (.iconst 2, 1) := by decide +kernel
theorem dL_law_452 : decode cL_law 452 = .ok (.iadd, 1) := by decide +kernel
theorem dL_law_453 : decode cL_law 453 = .ok (.iaload, 1) := by decide +kernel
theorem dL_law_454 : decode cL_law 454 = .ok (.invokevirtual 60, 3) := by decide +kernel
theorem dL_law_457 : decode cL_law 457 = .ok (.aload_n 2, 1) := by decide +kernel
theorem dL_law_458 : decode cL_law 458 = .ok (.aload_n 0, 1) := by decide +kernel
theorem dL_law_459 : decode cL_law 459 = .ok (.iload_n 3, 1) := by decide +kernel
theorem dL_law_460 : decode cL_law 460 = .ok (.iconst 1, 1) := by decide +kernel
theorem dL_law_461 : decode cL_law 461 = .ok (.iadd, 1) := by decide +kernel
theorem dL_law_462 : decode cL_law 462 = .ok (.iaload, 1) := by decide +kernel
theorem dL_law_463 : decode cL_law 463 = .ok (.aload_n 0, 1) := by decide +kernel
theorem dL_law_464 : decode cL_law 464 = .ok (.iload_n 3, 1) := by decide +kernel
theorem dL_law_465 : decode cL_law 465 = .ok (.iconst 2, 1) := by decide +kernel
theorem dL_law_466 : decode cL_law 466 = .ok (.iadd, 1) := by decide +kernel
theorem dL_law_467 : decode cL_law 467 = .ok (.iaload, 1) := by decide +kernel
theorem dL_law_468 : decode cL_law 468 = .ok (.invokevirtual 63, 3) := by decide +kernel
theorem dL_law_471 : decode cL_law 471 = .ok (.if_icmp .eq 314, 3) := by decide +kernel
theorem dL_law_474 : decode cL_law 474 = .ok (.iconst 0, 1) := by decide +kernel
theorem dL_law_475 : decode cL_law 475 = .ok (.ireturn, 1) := by decide +kernel
theorem dL_law_476 : decode cL_law 476 = .ok (.aload_n 1, 1) := by decide +kernel
theorem dL_law_477 : decode cL_law 477 = .ok (.invokevirtual 64, 3) := by decide +kernel
theorem dL_law_480 : decode cL_law 480 = .ok (.aload_n 2, 1) := by decide +kernel
theorem dL_law_481 : decode cL_law 481 = .ok (.invokevirtual 67, 3) := by decide +kernel
theorem dL_law_484 : decode cL_law 484 = .ok (.if_icmp .eq 301, 3) := by decide +kernel
theorem dL_law_487 : decode cL_law 487 = .ok (.iconst 0, 1) := by decide +kernel
theorem dL_law_488 : decode cL_law 488 = .ok (.ireturn, 1) := by decide +kernel
theorem dL_law_489 : decode cL_law 489 = .ok (.aload_n 1, 1) := by decide +kernel
theorem dL_law_490 : decode cL_law 490 = .ok (.invokevirtual 68, 3) := by decide +kernel
theorem dL_law_493 : decode cL_law 493 = .ok (.aload_n 2, 1) := by decide +kernel
theorem dL_law_494 : decode cL_law 494 = .ok (.invokevirtual 71, 3) := by decide +kernel
theorem dL_law_497 : decode cL_law 497 = .ok (.if_icmp .eq 288, 3) := by decide +kernel
theorem dL_law_500 : decode cL_law 500 = .ok (.iconst 0, 1) := by decide +kernel
theorem dL_law_501 : decode cL_law 501 = .ok (.ireturn, 1) := by decide +kernel
theorem dL_law_502 : decode cL_law 502 = .ok (.aload_n 1, 1) := by decide +kernel
theorem dL_law_503 : decode cL_law 503 = .ok (.aload_n 0, 1) := by decide +kernel
theorem dL_law_504 : decode cL_law 504 = .ok (.iload_n 3, 1) := by decide +kernel
theorem dL_law_505 : decode cL_law 505 = .ok (.iconst 1, 1) := by decide +kernel
theorem dL_law_506 : decode cL_law 506 = .ok (.iadd, 1) := by decide +kernel
theorem dL_law_507 : decode cL_law 507 = .ok (.iaload, 1) := by decide +kernel
theorem dL_law_508 : decode cL_law 508 = .ok (.invokevirtual 72, 3) := by decide +kernel
theorem dL_law_511 : decode cL_law 511 = .ok (.aload_n 2, 1) := by decide +kernel
theorem dL_law_512 : decode cL_law 512 = .ok (.aload_n 0, 1) := by decide +kernel
theorem dL_law_513 : decode cL_law 513 = .ok (.iload_n 3, 1) := by decide +kernel
theorem dL_law_514 : decode cL_law 514 = .ok (.iconst 1, 1) := by decide +kernel
theorem dL_law_515 : decode cL_law 515 = .ok (.iadd, 1) := by decide +kernel
theorem dL_law_516 : decode cL_law 516 = .ok (.iaload, 1) := by decide +kernel
theorem dL_law_517 : decode cL_law 517 = .ok (.invokevirtual 75, 3) := by decide +kernel
theorem dL_law_520 : decode cL_law 520 = .ok (.if_icmp .eq 265, 3) := by decide +kernel
theorem dL_law_523 : decode cL_law 523 = .ok (.iconst 0, 1) := by decide +kernel
theorem dL_law_524 : decode cL_law 524 = .ok (.ireturn, 1) := by decide +kernel
theorem dL_law_525 : decode cL_law 525 = .ok (.aload_n 1, 1) := by decide +kernel
theorem dL_law_526 : decode cL_law 526 = .ok (.aload_n 0, 1) := by decide +kernel
theorem dL_law_527 : decode cL_law 527 = .ok (.iload_n 3, 1) := by decide +kernel
theorem dL_law_528 : decode cL_law 528 = .ok (.iconst 1, 1) := by decide +kernel
theorem dL_law_529 : decode cL_law 529 = .ok (.iadd, 1) := by decide +kernel
theorem dL_law_530 : decode cL_law 530 = .ok (.iaload, 1) := by decide +kernel
theorem dL_law_531 : decode cL_law 531 = .ok (.invokevirtual 76, 3) := by decide +kernel
theorem dL_law_534 : decode cL_law 534 = .ok (.aload_n 2, 1) := by decide +kernel
theorem dL_law_535 : decode cL_law 535 = .ok (.aload_n 0, 1) := by decide +kernel
theorem dL_law_536 : decode cL_law 536 = .ok (.iload_n 3, 1) := by decide +kernel
theorem dL_law_537 : decode cL_law 537 = .ok (.iconst 1, 1) := by decide +kernel
theorem dL_law_538 : decode cL_law 538 = .ok (.iadd, 1) := by decide +kernel
theorem dL_law_539 : decode cL_law 539 = .ok (.iaload, 1) := by decide +kernel
theorem dL_law_540 : decode cL_law 540 = .ok (.invokevirtual 79, 3) := by decide +kernel
theorem dL_law_543 : decode cL_law 543 = .ok (.if_icmp .eq 242, 3) := by decide +kernel
theorem dL_law_546 : decode cL_law 546 = .ok (.iconst 0, 1) := by decide +kernel
theorem dL_law_547 : decode cL_law 547 = .ok (.ireturn, 1) := by decide +kernel
theorem dL_law_548 : decode cL_law 548 = .ok (.aload_n 1, 1) := by decide +kernel
theorem dL_law_549 : decode cL_law 549 = .ok (.aload_n 0, 1) := by decide +kernel
theorem dL_law_550 : decode cL_law 550 = .ok (.iload_n 3, 1) := by decide +kernel
theorem dL_law_551 : decode cL_law 551 = .ok (.iconst 1, 1) := by decide +kernel
theorem dL_law_552 : decode cL_law 552 = .ok (.iadd, 1) := by decide +kernel
theorem dL_law_553 : decode cL_law 553 = .ok (.iaload, 1) := by decide +kernel
theorem dL_law_554 : decode cL_law 554 = .ok (.invokevirtual 80, 3) := by decide +kernel
theorem dL_law_557 : decode cL_law 557 = .ok (.aload_n 2, 1) := by decide +kernel
theorem dL_law_558 : decode cL_law 558 = .ok (.aload_n 0, 1) := by decide +kernel
theorem dL_law_559 : decode cL_law 559 = .ok (.iload_n 3, 1) := by decide +kernel
theorem dL_law_560 : decode cL_law 560 = .ok (.iconst 1, 1) := by decide +kernel
theorem dL_law_561 : decode cL_law 561 = .ok (.iadd, 1) := by decide +kernel
theorem dL_law_562 : decode cL_law 562 = .ok (.iaload, 1) := by decide +kernel
theorem dL_law_563 : decode cL_law 563 = .ok (.invokevirtual 83, 3) := by decide +kernel
theorem dL_law_566 : decode cL_law 566 = .ok (.if_icmp .eq 219, 3) := by decide +kernel
theorem dL_law_569 : decode cL_law 569 = .ok (.iconst 0, 1) := by decide +kernel
theorem dL_law_570 : decode cL_law 570 = .ok (.ireturn, 1) := by decide +kernel
theorem dL_law_571 : decode cL_law 571 = .ok (.aload_n 1, 1) := by decide +kernel
theorem dL_law_572 : decode cL_law 572 = .ok (.aload_n 0, 1) := by decide +kernel
theorem dL_law_573 : decode cL_law 573 = .ok (.iload_n 3, 1) := by decide +kernel
theorem dL_law_574 : decode cL_law 574 = .ok (.iconst 1, 1) := by decide +kernel
theorem dL_law_575 : decode cL_law 575 = .ok (.iadd, 1) := by decide +kernel
theorem dL_law_576 : decode cL_law 576 = .ok (.iaload, 1) := by decide +kernel
theorem dL_law_577 : decode cL_law 577 = .ok (.invokevirtual 84, 3) := by decide +kernel
theorem dL_law_580 : decode cL_law 580 = .ok (.aload_n 2, 1) := by decide +kernel
theorem dL_law_581 : decode cL_law 581 = .ok (.aload_n 0, 1) := by decide +kernel
theorem dL_law_582 : decode cL_law 582 = .ok (.iload_n 3, 1) := by decide +kernel
theorem dL_law_583 : decode cL_law 583 = .ok (.iconst 1, 1) := by decide +kernel
theorem dL_law_584 : decode cL_law 584 = .ok (.iadd, 1) := by decide +kernel
theorem dL_law_585 : decode cL_law 585 = .ok (.iaload, 1) := by decide +kernel
theorem dL_law_586 : decode cL_law 586 = .ok (.invokevirtual 87, 3) := by decide +kernel
theorem dL_law_589 : decode cL_law 589 = .ok (.if_icmp .eq 196, 3) := by decide +kernel
theorem dL_law_592 : decode cL_law 592 = .ok (.iconst 0, 1) := by decide +kernel
theorem dL_law_593 : decode cL_law 593 = .ok (.ireturn, 1) := by decide +kernel
theorem dL_law_594 : decode cL_law 594 = .ok (.aload_n 1, 1) := by decide +kernel
theorem dL_law_595 : decode cL_law 595 = .ok (.aload_n 0, 1) := by decide +kernel
theorem dL_law_596 : decode cL_law 596 = .ok (.iload_n 3, 1) := by decide +kernel
theorem dL_law_597 : decode cL_law 597 = .ok (.iconst 1, 1) := by decide +kernel
theorem dL_law_598 : decode cL_law 598 = .ok (.iadd, 1) := by decide +kernel
theorem dL_law_599 : decode cL_law 599 = .ok (.iaload, 1) := by decide +kernel
theorem dL_law_600 : decode cL_law 600 = .ok (.invokevirtual 88, 3) := by decide +kernel
theorem dL_law_603 : decode cL_law 603 = .ok (.aload_n 2, 1) := by decide +kernel
theorem dL_law_604 : decode cL_law 604 = .ok (.aload_n 0, 1) := by decide +kernel
theorem dL_law_605 : decode cL_law 605 = .ok (.iload_n 3, 1) := by decide +kernel
theorem dL_law_606 : decode cL_law 606 = .ok (.iconst 1, 1) := by decide +kernel
theorem dL_law_607 : decode cL_law 607 = .ok (.iadd, 1) := by decide +kernel
theorem dL_law_608 : decode cL_law 608 = .ok (.iaload, 1) := by decide +kernel
theorem dL_law_609 : decode cL_law 609 = .ok (.invokevirtual 91, 3) := by decide +kernel
theorem dL_law_612 : decode cL_law 612 = .ok (.if_icmp .eq 173, 3) := by decide +kernel
theorem dL_law_615 : decode cL_law 615 = .ok (.iconst 0, 1) := by decide +kernel
theorem dL_law_616 : decode cL_law 616 = .ok (.ireturn, 1) := by decide +kernel
theorem dL_law_617 : decode cL_law 617 = .ok (.aload_n 1, 1) := by decide +kernel
theorem dL_law_618 : decode cL_law 618 = .ok (.aload_n 0, 1) := by decide +kernel
theorem dL_law_619 : decode cL_law 619 = .ok (.iload_n 3, 1) := by decide +kernel
theorem dL_law_620 : decode cL_law 620 = .ok (.iconst 1, 1) := by decide +kernel
theorem dL_law_621 : decode cL_law 621 = .ok (.iadd, 1) := by decide +kernel
theorem dL_law_622 : decode cL_law 622 = .ok (.iaload, 1) := by decide +kernel
theorem dL_law_623 : decode cL_law 623 = .ok (.invokevirtual 92, 3) := by decide +kernel
theorem dL_law_626 : decode cL_law 626 = .ok (.aload_n 2, 1) := by decide +kernel
theorem dL_law_627 : decode cL_law 627 = .ok (.aload_n 0, 1) := by decide +kernel
theorem dL_law_628 : decode cL_law 628 = .ok (.iload_n 3, 1) := by decide +kernel
theorem dL_law_629 : decode cL_law 629 = .ok (.iconst 1, 1) := by decide +kernel
theorem dL_law_630 : decode cL_law 630 = .ok (.iadd, 1) := by decide +kernel
theorem dL_law_631 : decode cL_law 631 = .ok (.iaload, 1) := by decide +kernel
theorem dL_law_632 : decode cL_law 632 = .ok (.invokevirtual 95, 3) := by decide +kernel
theorem dL_law_635 : decode cL_law 635 = .ok (.if_icmp .eq 150, 3) := by decide +kernel
theorem dL_law_638 : decode cL_law 638 = .ok (.iconst 0, 1) := by decide +kernel
theorem dL_law_639 : decode cL_law 639 = .ok (.ireturn, 1) := by decide +kernel
theorem dL_law_640 : decode cL_law 640 = .ok (.aload_n 1, 1) := by decide +kernel
theorem dL_law_641 : decode cL_law 641 = .ok (.aload_n 0, 1) := by decide +kernel
theorem dL_law_642 : decode cL_law 642 = .ok (.iload_n 3, 1) := by decide +kernel
theorem dL_law_643 : decode cL_law 643 = .ok (.iconst 1, 1) := by decide +kernel
theorem dL_law_644 : decode cL_law 644 = .ok (.iadd, 1) := by decide +kernel
theorem dL_law_645 : decode cL_law 645 = .ok (.iaload, 1) := by decide +kernel
theorem dL_law_646 : decode cL_law 646 = .ok (.invokevirtual 96, 3) := by decide +kernel
theorem dL_law_649 : decode cL_law 649 = .ok (.aload_n 2, 1) := by decide +kernel
theorem dL_law_650 : decode cL_law 650 = .ok (.aload_n 0, 1) := by decide +kernel
theorem dL_law_651 : decode cL_law 651 = .ok (.iload_n 3, 1) := by decide +kernel
theorem dL_law_652 : decode cL_law 652 = .ok (.iconst 1, 1) := by decide +kernel
theorem dL_law_653 : decode cL_law 653 = .ok (.iadd, 1) := by decide +kernel
theorem dL_law_654 : decode cL_law 654 = .ok (.iaload, 1) := by decide +kernel
theorem dL_law_655 : decode cL_law 655 = .ok (.invokevirtual 99, 3) := by decide +kernel
theorem dL_law_658 : decode cL_law 658 = .ok (.if_icmp .eq 127, 3) := by decide +kernel
theorem dL_law_661 : decode cL_law 661 = .ok (.iconst 0, 1) := by decide +kernel
theorem dL_law_662 : decode cL_law 662 = .ok (.ireturn, 1) := by decide +kernel
theorem dL_law_663 : decode cL_law 663 = .ok (.aload_n 1, 1) := by decide +kernel
theorem dL_law_664 : decode cL_law 664 = .ok (.aload_n 0, 1) := by decide +kernel
theorem dL_law_665 : decode cL_law 665 = .ok (.iload_n 3, 1) := by decide +kernel
theorem dL_law_666 : decode cL_law 666 = .ok (.iconst 1, 1) := by decide +kernel
theorem dL_law_667 : decode cL_law 667 = .ok (.iadd, 1) := by decide +kernel
theorem dL_law_668 : decode cL_law 668 = .ok (.iaload, 1) := by decide +kernel
theorem dL_law_669 : decode cL_law 669 = .ok (.invokevirtual 100, 3) := by decide +kernel
theorem dL_law_672 : decode cL_law 672 = .ok (.aload_n 2, 1) := by decide +kernel
theorem dL_law_673 : decode cL_law 673 = .ok (.aload_n 0, 1) := by decide +kernel
theorem dL_law_674 : decode cL_law 674 = .ok (.iload_n 3, 1) := by decide +kernel
theorem dL_law_675 : decode cL_law 675 = .ok (.iconst 1, 1) := by decide +kernel
theorem dL_law_676 : decode cL_law 676 = .ok (.iadd, 1) := by decide +kernel
theorem dL_law_677 : decode cL_law 677 = .ok (.iaload, 1) := by decide +kernel
theorem dL_law_678 : decode cL_law 678 = .ok (.invokevirtual 103, 3) := by decide +kernel
theorem dL_law_681 : decode cL_law 681 = .ok (.if_icmp .eq 104, 3) := by decide +kernel
theorem dL_law_684 : decode cL_law 684 = .ok (.iconst 0, 1) := by decide +kernel
theorem dL_law_685 : decode cL_law 685 = .ok (.ireturn, 1) := by decide +kernel
theorem dL_law_686 : decode cL_law 686 = .ok (.aload_n 1, 1) := by decide +kernel
theorem dL_law_687 : decode cL_law 687 = .ok (.invokevirtual 104, 3) := by decide +kernel
theorem dL_law_690 : decode cL_law 690 = .ok (.aload_n 2, 1) := by decide +kernel
theorem dL_law_691 : decode cL_law 691 = .ok (.invokevirtual 107, 3) := by decide +kernel
theorem dL_law_694 : decode cL_law 694 = .ok (.if_icmp .eq 91, 3) := by decide +kernel
theorem dL_law_697 : decode cL_law 697 = .ok (.iconst 0, 1) := by decide +kernel
theorem dL_law_698 : decode cL_law 698 = .ok (.ireturn, 1) := by decide +kernel
theorem dL_law_699 : decode cL_law 699 = .ok (.aload_n 1, 1) := by decide +kernel
theorem dL_law_700 : decode cL_law 700 = .ok (.invokevirtual 108, 3) := by decide +kernel
theorem dL_law_703 : decode cL_law 703 = .ok (.aload_n 2, 1) := by decide +kernel
theorem dL_law_704 : decode cL_law 704 = .ok (.invokevirtual 111, 3) := by decide +kernel
theorem dL_law_707 : decode cL_law 707 = .ok (.if_icmp .eq 78, 3) := by decide +kernel
theorem dL_law_710 : decode cL_law 710 = .ok (.iconst 0, 1) := by decide +kernel
theorem dL_law_711 : decode cL_law 711 = .ok (.ireturn, 1) := by decide +kernel
theorem dL_law_712 : decode cL_law 712 = .ok (.aload_n 1, 1) := by decide +kernel
theorem dL_law_713 : decode cL_law 713 = .ok (.aload_n 0, 1) := by decide +kernel
theorem dL_law_714 : decode cL_law 714 = .ok (.iload_n 3, 1) := by decide +kernel
theorem dL_law_715 : decode cL_law 715 = .ok (.iconst 1, 1) := by decide +kernel
theorem dL_law_716 : decode cL_law 716 = .ok (.iadd, 1) := by decide +kernel
theorem dL_law_717 : decode cL_law 717 = .ok (.iaload, 1) := by decide +kernel
theorem dL_law_718 : decode cL_law 718 = .ok (.invokevirtual 112, 3) := by decide +kernel
theorem dL_law_721 : decode cL_law 721 = .ok (.aload_n 2, 1) := by decide +kernel
theorem dL_law_722 : decode cL_law 722 = .ok (.aload_n 0, 1) := by decide +kernel
theorem dL_law_723 : decode cL_law 723 = .ok (.iload_n 3, 1) := by decide +kernel
theorem dL_law_724 : decode cL_law 724 = .ok (.iconst 1, 1) := by decide +kernel
theorem dL_law_725 : decode cL_law 725 = .ok (.iadd, 1) := by decide +kernel
theorem dL_law_726 : decode cL_law 726 = .ok (.iaload, 1) := by decide +kernel
theorem dL_law_727 : decode cL_law 727 = .ok (.invokevirtual 115, 3) := by decide +kernel
theorem dL_law_730 : decode cL_law 730 = .ok (.if_icmp .eq 55, 3) := by decide +kernel
theorem dL_law_733 : decode cL_law 733 = .ok (.iconst 0, 1) := by decide +kernel
theorem dL_law_734 : decode cL_law 734 = .ok (.ireturn, 1) := by decide +kernel
theorem dL_law_735 : decode cL_law 735 = .ok (.aload_n 1, 1) := by decide +kernel
theorem dL_law_736 : decode cL_law 736 = .ok (.invokevirtual 116, 3) := by decide +kernel
theorem dL_law_739 : decode cL_law 739 = .ok (.aload_n 2, 1) := by decide +kernel
theorem dL_law_740 : decode cL_law 740 = .ok (.invokevirtual 119, 3) := by decide +kernel
theorem dL_law_743 : decode cL_law 743 = .ok (.if_icmp .eq 42, 3) := by decide +kernel
theorem dL_law_746 : decode cL_law 746 = .ok (.iconst 0, 1) := by decide +kernel
theorem dL_law_747 : decode cL_law 747 = .ok (.ireturn, 1) := by decide +kernel
theorem dL_law_748 : decode cL_law 748 = .ok (.aload_n 1, 1) := by decide +kernel
theorem dL_law_749 : decode cL_law 749 = .ok (.aload_n 0, 1) := by decide +kernel
theorem dL_law_750 : decode cL_law 750 = .ok (.iload_n 3, 1) := by decide +kernel
theorem dL_law_751 : decode cL_law 751 = .ok (.iconst 1, 1) := by decide +kernel
theorem dL_law_752 : decode cL_law 752 = .ok (.iadd, 1) := by decide +kernel
theorem dL_law_753 : decode cL_law 753 = .ok (.iaload, 1) := by decide +kernel
theorem dL_law_754 : decode cL_law 754 = .ok (.invokevirtual 120, 3) := by decide +kernel
theorem dL_law_757 : decode cL_law 757 = .ok (.aload_n 2, 1) := by decide +kernel
theorem dL_law_758 : decode cL_law 758 = .ok (.aload_n 0, 1) := by decide +kernel
theorem dL_law_759 : decode cL_law 759 = .ok (.iload_n 3, 1) := by decide +kernel
theorem dL_law_760 : decode cL_law 760 = .ok (.iconst 1, 1) := by decide +kernel
theorem dL_law_761 : decode cL_law 761 = .ok (.iadd, 1) := by decide +kernel
theorem dL_law_762 : decode cL_law 762 = .ok (.iaload, 1) := by decide +kernel
theorem dL_law_763 : decode cL_law 763 = .ok (.invokevirtual 123, 3) := by decide +kernel
theorem dL_law_766 : decode cL_law 766 = .ok (.if_icmp .eq 19, 3) := by decide +kernel
theorem dL_law_769 : decode cL_law 769 = .ok (.iconst 0, 1) := by decide +kernel
theorem dL_law_770 : decode cL_law 770 = .ok (.ireturn, 1) := by decide +kernel
theorem dL_law_771 : decode cL_law 771 = .ok (.aload_n 1, 1) := by decide +kernel
theorem dL_law_772 : decode cL_law 772 = .ok (.invokevirtual 124, 3) := by decide +kernel
theorem dL_law_775 : decode cL_law 775 = .ok (.aload_n 2, 1) := by decide +kernel
theorem dL_law_776 : decode cL_law 776 = .ok (.invokevirtual 128, 3) := by decide +kernel
theorem dL_law_779 : decode cL_law 779 = .ok (.lcmp, 1) := by decide +kernel
theorem dL_law_780 : decode cL_law 780 = .ok (.ifCond .eq 5, 3) := by decide +kernel
theorem dL_law_783 : decode cL_law 783 = .ok (.iconst 0, 1) := by decide +kernel
theorem dL_law_784 : decode cL_law 784 = .ok (.ireturn, 1) := by decide +kernel
theorem dL_law_785 : decode cL_law 785 = .ok (.iinc 3 3, 3) := by decide +kernel
theorem dL_law_788 : decode cL_law 788 = .ok (.goto (-770), 3) := by decide +kernel
theorem dL_law_791 : decode cL_law 791 = .ok (.iconst 1, 1) := by decide +kernel
theorem dL_law_792 : decode cL_law 792 = .ok (.ireturn, 1) := by decide +kernel
