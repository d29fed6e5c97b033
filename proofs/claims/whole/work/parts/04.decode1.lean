theorem dX0_init_0 : decode cX0_init 0 = .ok (.aload_n 0, 1) := by decide +kernel
theorem dX0_init_1 : decode cX0_init 1 = .ok (.invokespecial 3, 3) := by decide +kernel
theorem dX0_init_4 : decode cX0_init 4 = .ok (.aload_n 0, 1) := by decide +kernel
theorem dX0_init_5 : decode cX0_init 5 = .ok (.sipush 5454, 3) := by decide +kernel
theorem dX0_init_8 : decode cX0_init 8 = .ok (.newarray .int, 2) := by decide +kernel
theorem dX0_init_10 : decode cX0_init 10 = .ok (.putfield 11, 3) := by decide +kernel
theorem dX0_init_13 : decode cX0_init 13 = .ok (.return_, 1) := by decide +kernel
theorem dX0_get_0 : decode cX0_get 0 = .ok (.iload_n 1, 1) := by decide +kernel
theorem dX0_get_1 : decode cX0_get 1 = .ok (.bipush 9, 2) := by decide +kernel
theorem dX0_get_3 : decode cX0_get 3 = .ok (.imul, 1) := by decide +kernel
theorem dX0_get_4 : decode cX0_get 4 = .ok (.iload_n 2, 1) := by decide +kernel
theorem dX0_get_5 : decode cX0_get 5 = .ok (.iadd, 1) := by decide +kernel
theorem dX0_get_6 : decode cX0_get 6 = .ok (.bipush 101, 2) := by decide +kernel
theorem dX0_get_8 : decode cX0_get 8 = .ok (.imul, 1) := by decide +kernel
theorem dX0_get_9 : decode cX0_get 9 = .ok (.iload_n 3, 1) := by decide +kernel
theorem dX0_get_10 : decode cX0_get 10 = .ok (.iadd, 1) := by decide +kernel
theorem dX0_get_11 : decode cX0_get 11 = .ok (.istore 4, 2) := by decide +kernel
theorem dX0_get_13 : decode cX0_get 13 = .ok (.iload_n 3, 1) := by decide +kernel
theorem dX0_get_14 : decode cX0_get 14 = .ok (.ifCond .lt 28, 3) := by decide +kernel
theorem dX0_get_17 : decode cX0_get 17 = .ok (.iload 4, 2) := by decide +kernel
theorem dX0_get_19 : decode cX0_get 19 = .ok (.ifCond .lt 23, 3) := by decide +kernel
theorem dX0_get_22 : decode cX0_get 22 = .ok (.iload 4, 2) := by decide +kernel
theorem dX0_get_24 : decode cX0_get 24 = .ok (.aload_n 0, 1) := by decide +kernel
theorem dX0_get_25 : decode cX0_get 25 = .ok (.getfield 11, 3) := by decide +kernel
theorem dX0_get_28 : decode cX0_get 28 = .ok (.arraylength, 1) := by decide +kernel
theorem dX0_get_29 : decode cX0_get 29 = .ok (.if_icmp .ge 13, 3) := by decide +kernel
theorem dX0_get_32 : decode cX0_get 32 = .ok (.aload_n 0, 1) := by decide +kernel
theorem dX0_get_33 : decode cX0_get 33 = .ok (.getfield 11, 3) := by decide +kernel
theorem dX0_get_36 : decode cX0_get 36 = .ok (.iload 4, 2) := by decide +kernel
theorem dX0_get_38 : decode cX0_get 38 = .ok (.iaload, 1) := by decide +kernel
theorem dX0_get_39 : decode cX0_get 39 = .ok (.goto 4, 3) := by decide +kernel
theorem dX0_get_42 : decode cX0_get 42 = .ok (.iconst (-1), 1) := by decide +kernel
theorem dX0_get_43 : decode cX0_get 43 = .ok (.ireturn, 1) := by decide +kernel
theorem dX0_set_0 : decode cX0_set 0 = .ok (.iload_n 1, 1) := by decide +kernel
theorem dX0_set_1 : decode cX0_set 1 = .ok (.bipush 9, 2) := by decide +kernel
theorem dX0_set_3 : decode cX0_set 3 = .ok (.imul, 1) := by decide +kernel
theorem dX0_set_4 : decode cX0_set 4 = .ok (.iload_n 2, 1) := by decide +kernel
theorem dX0_set_5 : decode cX0_set 5 = .ok (.iadd, 1) := by decide +kernel
theorem dX0_set_6 : decode cX0_set 6 = .ok (.bipush 101, 2) := by decide +kernel
theorem dX0_set_8 : decode cX0_set 8 = .ok (.imul, 1) := by decide +kernel
theorem dX0_set_9 : decode cX0_set 9 = .ok (.iload_n 3, 1) := by decide +kernel
theorem dX0_set_10 : decode cX0_set 10 = .ok (.iadd, 1) := by decide +kernel
theorem dX0_set_11 : decode cX0_set 11 = .ok (.istore 5, 2) := by decide +kernel
theorem dX0_set_13 : decode cX0_set 13 = .ok (.iload_n 3, 1) := by decide +kernel
theorem dX0_set_14 : decode cX0_set 14 = .ok (.ifCond .lt 27, 3) := by decide +kernel
theorem dX0_set_17 : decode cX0_set 17 = .ok (.iload 5, 2) := by decide +kernel
theorem dX0_set_19 : decode cX0_set 19 = .ok (.ifCond .lt 22, 3) := by decide +kernel
theorem dX0_set_22 : decode cX0_set 22 = .ok (.iload 5, 2) := by decide +kernel
theorem dX0_set_24 : decode cX0_set 24 = .ok (.aload_n 0, 1) := by decide +kernel
theorem dX0_set_25 : decode cX0_set 25 = .ok (.getfield 11, 3) := by decide +kernel
theorem dX0_set_28 : decode cX0_set 28 = .ok (.arraylength, 1) := by decide +kernel
theorem dX0_set_29 : decode cX0_set 29 = .ok (.if_icmp .ge 12, 3) := by decide +kernel
theorem dX0_set_32 : decode cX0_set 32 = .ok (.aload_n 0, 1) := by decide +kernel
theorem dX0_set_33 : decode cX0_set 33 = .ok (.getfield 11, 3) := by decide +kernel
theorem dX0_set_36 : decode cX0_set 36 = .ok (.iload 5, 2) := by decide +kernel
theorem dX0_set_38 : decode cX0_set 38 = .ok (.iload 4, 2) := by decide +kernel
theorem dX0_set_40 : decode cX0_set 40 = .ok (.iastore, 1) := by decide +kernel
theorem dX0_set_41 : decode cX0_set 41 = .ok (.return_, 1) := by decide +kernel
theorem dX1_init_0 : decode cX1_init 0 = .ok (.aload_n 0, 1) := by decide +kernel
theorem dX1_init_1 : decode cX1_init 1 = .ok (.invokespecial 3, 3) := by decide +kernel
theorem dX1_init_4 : decode cX1_init 4 = .ok (.aload_n 0, 1) := by decide +kernel
theorem dX1_init_5 : decode cX1_init 5 = .ok (.iconst 4, 1) := by decide +kernel
theorem dX1_init_6 : decode cX1_init 6 = .ok (.anewarray 9, 3) := by decide +kernel
theorem dX1_init_9 : decode cX1_init 9 = .ok (.dup, 1) := by decide +kernel
theorem dX1_init_10 : decode cX1_init 10 = .ok (.iconst 0, 1) := by decide +kernel
theorem dX1_init_11 : decode cX1_init 11 = .ok (.new 9, 3) := by decide +kernel
theorem dX1_init_14 : decode cX1_init 14 = .ok (.dup, 1) := by decide +kernel
theorem dX1_init_15 : decode cX1_init 15 = .ok (.invokespecial 11, 3) := by decide +kernel
theorem dX1_init_18 : decode cX1_init 18 = .ok (.aastore, 1) := by decide +kernel
theorem dX1_init_19 : decode cX1_init 19 = .ok (.dup, 1) := by decide +kernel
theorem dX1_init_20 : decode cX1_init 20 = .ok (.iconst 1, 1) := by decide +kernel
theorem dX1_init_21 : decode cX1_init 21 = .ok (.new 9, 3) := by decide +kernel
theorem dX1_init_24 : decode cX1_init 24 = .ok (.dup, 1) := by decide +kernel
theorem dX1_init_25 : decode cX1_init 25 = .ok (.invokespecial 11, 3) := by decide +kernel
theorem dX1_init_28 : decode cX1_init 28 = .ok (.aastore, 1) := by decide +kernel
theorem dX1_init_29 : decode cX1_init 29 = .ok (.dup, 1) := by decide +kernel
theorem dX1_init_30 : decode cX1_init 30 = .ok (.iconst 2, 1) := by decide +kernel
theorem dX1_init_31 : decode cX1_init 31 = .ok (.new 9, 3) := by decide +kernel
theorem dX1_init_34 : decode cX1_init 34 = .ok (.dup, 1) := by decide +kernel
theorem dX1_init_35 : decode cX1_init 35 = .ok (.invokespecial 11, 3) := by decide +kernel
theorem dX1_init_38 : decode cX1_init 38 = .ok (.aastore, 1) := by decide +kernel
theorem dX1_init_39 : decode cX1_init 39 = .ok (.dup, 1) := by decide +kernel
theorem dX1_init_40 : decode cX1_init 40 = .ok (.iconst 3, 1) := by decide +kernel
theorem dX1_init_41 : decode cX1_init 41 = .ok (.new 9, 3) := by decide +kernel
theorem dX1_init_44 : decode cX1_init 44 = .ok (.dup, 1) := by decide +kernel
theorem dX1_init_45 : decode cX1_init 45 = .ok (.invokespecial 11, 3) := by decide +kernel
theorem dX1_init_48 : decode cX1_init 48 = .ok (.aastore, 1) := by decide +kernel
theorem dX1_init_49 : decode cX1_init 49 = .ok (.putfield 12, 3) := by decide +kernel
theorem dX1_init_52 : decode cX1_init 52 = .ok (.aload_n 0, 1) := by decide +kernel
theorem dX1_init_53 : decode cX1_init 53 = .ok (.iconst 0, 1) := by decide +kernel
theorem dX1_init_54 : decode cX1_init 54 = .ok (.putfield 18, 3) := by decide +kernel
theorem dX1_init_57 : decode cX1_init 57 = .ok (.aload_n 0, 1) := by decide +kernel
theorem dX1_init_58 : decode cX1_init 58 = .ok (.iconst 0, 1) := by decide +kernel
theorem dX1_init_59 : decode cX1_init 59 = .ok (.putfield 22, 3) := by decide +kernel
theorem dX1_init_62 : decode cX1_init 62 = .ok (.return_, 1) := by decide +kernel
theorem dX1_savedCount_0 : decode cX1_savedCount 0 = .ok (.aload_n 0, 1) := by decide +kernel
theorem dX1_savedCount_1 : decode cX1_savedCount 1 = .ok (.getfield 22, 3) := by decide +kernel
theorem dX1_savedCount_4 : decode cX1_savedCount 4 = .ok (.ireturn, 1) := by decide +kernel
theorem dX1_save_0 : decode cX1_save 0 = .ok (.aload_n 0, 1) := by decide +kernel
theorem dX1_save_1 : decode cX1_save 1 = .ok (.aload_n 0, 1) := by decide +kernel
theorem dX1_save_2 : decode cX1_save 2 = .ok (.getfield 18, 3) := by decide +kernel
theorem dX1_save_5 : decode cX1_save 5 = .ok (.invokevirtual 25, 3) := by decide +kernel
theorem dX1_save_8 : decode cX1_save 8 = .ok (.aload_n 1, 1) := by decide +kernel
theorem dX1_save_9 : decode cX1_save 9 = .ok (.invokevirtual 29, 3) := by decide +kernel
theorem dX1_save_12 : decode cX1_save 12 = .ok (.aload_n 0, 1) := by decide +kernel
theorem dX1_save_13 : decode cX1_save 13 = .ok (.aload_n 0, 1) := by decide +kernel
theorem dX1_save_14 : decode cX1_save 14 = .ok (.getfield 18, 3) := by decide +kernel
theorem dX1_save_17 : decode cX1_save 17 = .ok (.iconst 1, 1) := by decide +kernel
theorem dX1_save_18 : decode cX1_save 18 = .ok (.iadd, 1) := by decide +kernel
theorem dX1_save_19 : decode cX1_save 19 = .ok (.iconst 4, 1) := by decide +kernel
theorem dX1_save_20 : decode cX1_save 20 = .ok (.if_icmp .ge 12, 3) := by decide +kernel
theorem dX1_save_23 : decode cX1_save 23 = .ok (.aload_n 0, 1) := by decide +kernel
theorem dX1_save_24 : decode cX1_save 24 = .ok (.getfield 18, 3) := by decide +kernel
theorem dX1_save_27 : decode cX1_save 27 = .ok (.iconst 1, 1) := by decide +kernel
theorem dX1_save_28 : decode cX1_save 28 = .ok (.iadd, 1) := by decide +kernel
theorem dX1_save_29 : decode cX1_save 29 = .ok (.goto 4, 3) := by decide +kernel
theorem dX1_save_32 : decode cX1_save 32 = .ok (.iconst 0, 1) := by decide +kernel
theorem dX1_save_33 : decode cX1_save 33 = .ok (.putfield 18, 3) := by decide +kernel
theorem dX1_save_36 : decode cX1_save 36 = .ok (.aload_n 0, 1) := by decide +kernel
theorem dX1_save_37 : decode cX1_save 37 = .ok (.aload_n 0, 1) := by decide +kernel
theorem dX1_save_38 : decode cX1_save 38 = .ok (.getfield 22, 3) := by decide +kernel
theorem dX1_save_41 : decode cX1_save 41 = .ok (.iconst 1, 1) := by decide +kernel
theorem dX1_save_42 : decode cX1_save 42 = .ok (.iadd, 1) := by decide +kernel
theorem dX1_save_43 : decode cX1_save 43 = .ok (.iconst 4, 1) := by decide +kernel
theorem dX1_save_44 : decode cX1_save 44 = .ok (.invokestatic 33, 3) := by decide +kernel
theorem dX1_save_47 : decode cX1_save 47 = .ok (.putfield 22, 3) := by decide +kernel
theorem dX1_save_50 : decode cX1_save 50 = .ok (.return_, 1) := by decide +kernel
theorem dX1_restore_0 : decode cX1_restore 0 = .ok (.aload_n 0, 1) := by decide +kernel
theorem dX1_restore_1 : decode cX1_restore 1 = .ok (.aload_n 0, 1) := by decide +kernel
theorem dX1_restore_2 : decode cX1_restore 2 = .ok (.getfield 18, 3) := by decide +kernel
theorem dX1_restore_5 : decode cX1_restore 5 = .ok (.ifCond .le 12, 3) := by decide +kernel
theorem dX1_restore_8 : decode cX1_restore 8 = .ok (.aload_n 0, 1) := by decide +kernel
theorem dX1_restore_9 : decode cX1_restore 9 = .ok (.getfield 18, 3) := by decide +kernel
theorem dX1_restore_12 : decode cX1_restore 12 = .ok (.iconst 1, 1) := by decide +kernel
theorem dX1_restore_13 : decode cX1_restore 13 = .ok (.isub, 1) := by decide +kernel
theorem dX1_restore_14 : decode cX1_restore 14 = .ok (.goto 4, 3) := by decide +kernel
theorem dX1_restore_17 : decode cX1_restore 17 = .ok (.iconst 3, 1) := by decide +kernel
theorem dX1_restore_18 : decode cX1_restore 18 = .ok (.putfield 18, 3) := by decide +kernel
theorem dX1_restore_21 : decode cX1_restore 21 = .ok (.aload_n 1, 1) := by decide +kernel
theorem dX1_restore_22 : decode cX1_restore 22 = .ok (.aload_n 0, 1) := by decide +kernel
theorem dX1_restore_23 : decode cX1_restore 23 = .ok (.aload_n 0, 1) := by decide +kernel
theorem dX1_restore_24 : decode cX1_restore 24 = .ok (.getfield 18, 3) := by decide +kernel
theorem dX1_restore_27 : decode cX1_restore 27 = .ok (.invokevirtual 25, 3) := by decide +kernel
theorem dX1_restore_30 : decode cX1_restore 30 = .ok (.invokevirtual 29, 3) := by decide +kernel
theorem dX1_restore_33 : decode cX1_restore 33 = .ok (.aload_n 0, 1) := by decide +kernel
theorem dX1_restore_34 : decode cX1_restore 34 = .ok (.aload_n 0, 1) := by decide +kernel
theorem dX1_restore_35 : decode cX1_restore 35 = .ok (.getfield 22, 3) := by decide +kernel
theorem dX1_restore_38 : decode cX1_restore 38 = .ok (.iconst 1, 1) := by decide +kernel
theorem dX1_restore_39 : decode cX1_restore 39 = .ok (.isub, 1) := by decide +kernel
theorem dX1_restore_40 : decode cX1_restore 40 = .ok (.iconst 0, 1) := by decide +kernel
theorem dX1_restore_41 : decode cX1_restore 41 = .ok (.invokestatic 39, 3) := by decide +kernel
theorem dX1_restore_44 : decode cX1_restore 44 = .ok (.putfield 22, 3) := by decide +kernel
theorem dX1_restore_47 : decode cX1_restore 47 = .ok (.return_, 1) := by decide +kernel
theorem dX1_slotAt_0 : decode cX1_slotAt 0 = .ok (.aload_n 0, 1) := by decide +kernel
theorem dX1_slotAt_1 : decode cX1_slotAt 1 = .ok (.getfield 12, 3) := by decide +kernel
theorem dX1_slotAt_4 : decode cX1_slotAt 4 = .ok (.iload_n 1, 1) := by decide +kernel
theorem dX1_slotAt_5 : decode cX1_slotAt 5 = .ok (.ifCond .lt 16, 3) := by decide +kernel
theorem dX1_slotAt_8 : decode cX1_slotAt 8 = .ok (.iload_n 1, 1) := by decide +kernel
theorem dX1_slotAt_9 : decode cX1_slotAt 9 = .ok (.aload_n 0, 1) := by decide +kernel
theorem dX1_slotAt_10 : decode cX1_slotAt 10 = .ok (.getfield 12, 3) := by decide +kernel
theorem dX1_slotAt_13 : decode cX1_slotAt 13 = .ok (.arraylength, 1) := by decide +kernel
theorem dX1_slotAt_14 : decode cX1_slotAt 14 = .ok (.if_icmp .ge 7, 3) := by decide +kernel
theorem dX1_slotAt_17 : decode cX1_slotAt 17 = .ok (.iload_n 1, 1) := by decide +kernel
theorem dX1_slotAt_18 : decode cX1_slotAt 18 = .ok (.goto 4, 3) := by decide +kernel
theorem dX1_slotAt_21 : decode cX1_slotAt 21 = .ok (.iconst 0, 1) := by decide +kernel
theorem dX1_slotAt_22 : decode cX1_slotAt 22 = .ok (.aaload, 1) := by decide +kernel
theorem dX1_slotAt_23 : decode cX1_slotAt 23 = .ok (.areturn, 1) := by decide +kernel
theorem dX2_init_0 : decode cX2_init 0 = .ok (.aload_n 0, 1) := by decide +kernel
theorem dX2_init_1 : decode cX2_init 1 = .ok (.invokespecial 3, 3) := by decide +kernel
theorem dX2_init_4 : decode cX2_init 4 = .ok (.aload_n 0, 1) := by decide +kernel
theorem dX2_init_5 : decode cX2_init 5 = .ok (.new 9, 3) := by decide +kernel
theorem dX2_init_8 : decode cX2_init 8 = .ok (.dup, 1) := by decide +kernel
theorem dX2_init_9 : decode cX2_init 9 = .ok (.bipush 101, 2) := by decide +kernel
theorem dX2_init_11 : decode cX2_init 11 = .ok (.invokespecial 11, 3) := by decide +kernel
theorem dX2_init_14 : decode cX2_init 14 = .ok (.putfield 14, 3) := by decide +kernel
theorem dX2_init_17 : decode cX2_init 17 = .ok (.aload_n 0, 1) := by decide +kernel
theorem dX2_init_18 : decode cX2_init 18 = .ok (.new 9, 3) := by decide +kernel
theorem dX2_init_21 : decode cX2_init 21 = .ok (.dup, 1) := by decide +kernel
theorem dX2_init_22 : decode cX2_init 22 = .ok (.bipush 101, 2) := by decide +kernel
theorem dX2_init_24 : decode cX2_init 24 = .ok (.invokespecial 11, 3) := by decide +kernel
theorem dX2_init_27 : decode cX2_init 27 = .ok (.putfield 20, 3) := by decide +kernel
theorem dX2_init_30 : decode cX2_init 30 = .ok (.aload_n 0, 1) := by decide +kernel
theorem dX2_init_31 : decode cX2_init 31 = .ok (.new 9, 3) := by decide +kernel
theorem dX2_init_34 : decode cX2_init 34 = .ok (.dup, 1) := by decide +kernel
theorem dX2_init_35 : decode cX2_init 35 = .ok (.bipush 101, 2) := by decide +kernel
theorem dX2_init_37 : decode cX2_init 37 = .ok (.invokespecial 11, 3) := by decide +kernel
theorem dX2_init_40 : decode cX2_init 40 = .ok (.putfield 23, 3) := by decide +kernel
theorem dX2_init_43 : decode cX2_init 43 = .ok (.aload_n 0, 1) := by decide +kernel
theorem dX2_init_44 : decode cX2_init 44 = .ok (.new 26, 3) := by decide +kernel
theorem dX2_init_47 : decode cX2_init 47 = .ok (.dup, 1) := by decide +kernel
theorem dX2_init_48 : decode cX2_init 48 = .ok (.invokespecial 28, 3) := by decide +kernel
theorem dX2_init_51 : decode cX2_init 51 = .ok (.putfield 29, 3) := by decide +kernel
theorem dX2_init_54 : decode cX2_init 54 = .ok (.aload_n 0, 1) := by decide +kernel
theorem dX2_init_55 : decode cX2_init 55 = .ok (.aload_n 1, 1) := by decide +kernel
theorem dX2_init_56 : decode cX2_init 56 = .ok (.putfield 33, 3) := by decide +kernel
theorem dX2_init_59 : decode cX2_init 59 = .ok (.return_, 1) := by decide +kernel
theorem dX2_update_0 : decode cX2_update 0 = .ok (.aload_n 0, 1) := by decide +kernel
theorem dX2_update_1 : decode cX2_update 1 = .ok (.getfield 33, 3) := by decide +kernel
theorem dX2_update_4 : decode cX2_update 4 = .ok (.invokevirtual 37, 3) := by decide +kernel
theorem dX2_update_7 : decode cX2_update 7 = .ok (.istore_n 1, 1) := by decide +kernel
theorem dX2_update_8 : decode cX2_update 8 = .ok (.iload_n 1, 1) := by decide +kernel
theorem dX2_update_9 : decode cX2_update 9 = .ok (.ifCond .lt 39, 3) := by decide +kernel
theorem dX2_update_12 : decode cX2_update 12 = .ok (.aload_n 0, 1) := by decide +kernel
theorem dX2_update_13 : decode cX2_update 13 = .ok (.iload_n 1, 1) := by decide +kernel
theorem dX2_update_14 : decode cX2_update 14 = .ok (.invokevirtual 43, 3) := by decide +kernel
theorem dX2_update_17 : decode cX2_update 17 = .ok (.aload_n 0, 1) := by decide +kernel
theorem dX2_update_18 : decode cX2_update 18 = .ok (.iload_n 1, 1) := by decide +kernel
theorem dX2_update_19 : decode cX2_update 19 = .ok (.invokevirtual 46, 3) := by decide +kernel
theorem dX2_update_22 : decode cX2_update 22 = .ok (.iconst 0, 1) := by decide +kernel
theorem dX2_update_23 : decode cX2_update 23 = .ok (.istore_n 2, 1) := by decide +kernel
theorem dX2_update_24 : decode cX2_update 24 = .ok (.iload_n 2, 1) := by decide +kernel
theorem dX2_update_25 : decode cX2_update 25 = .ok (.bipush 6, 2) := by decide +kernel
theorem dX2_update_27 : decode cX2_update 27 = .ok (.if_icmp .ge 15, 3) := by decide +kernel
theorem dX2_update_30 : decode cX2_update 30 = .ok (.aload_n 0, 1) := by decide +kernel
theorem dX2_update_31 : decode cX2_update 31 = .ok (.iload_n 2, 1) := by decide +kernel
theorem dX2_update_32 : decode cX2_update 32 = .ok (.iload_n 1, 1) := by decide +kernel
theorem dX2_update_33 : decode cX2_update 33 = .ok (.invokevirtual 49, 3) := by decide +kernel
theorem dX2_update_36 : decode cX2_update 36 = .ok (.iinc 2 1, 3) := by decide +kernel
theorem dX2_update_39 : decode cX2_update 39 = .ok (.goto (-15), 3) := by decide +kernel
theorem dX2_update_42 : decode cX2_update 42 = .ok (.iinc 1 (-1), 3) := by decide +kernel
theorem dX2_update_45 : decode cX2_update 45 = .ok (.goto (-37), 3) := by decide +kernel
theorem dX2_update_48 : decode cX2_update 48 = .ok (.return_, 1) := by decide +kernel
theorem dX2_islandEnd_0 : decode cX2_islandEnd 0 = .ok (.aload_n 0, 1) := by decide +kernel
theorem dX2_islandEnd_1 : decode cX2_islandEnd 1 = .ok (.getfield 29, 3) := by decide +kernel
theorem dX2_islandEnd_4 : decode cX2_islandEnd 4 = .ok (.iload_n 1, 1) := by decide +kernel
theorem dX2_islandEnd_5 : decode cX2_islandEnd 5 = .ok (.iconst 0, 1) := by decide +kernel
theorem dX2_islandEnd_6 : decode cX2_islandEnd 6 = .ok (.iload_n 2, 1) := by decide +kernel
theorem dX2_islandEnd_7 : decode cX2_islandEnd 7 = .ok (.invokevirtual 53, 3) := by decide +kernel
theorem dX2_islandEnd_10 : decode cX2_islandEnd 10 = .ok (.ireturn, 1) := by decide +kernel
theorem dX2_firstRule_0 : decode cX2_firstRule 0 = .ok (.aload_n 0, 1) := by decide +kernel
theorem dX2_firstRule_1 : decode cX2_firstRule 1 = .ok (.getfield 23, 3) := by decide +kernel
theorem dX2_firstRule_4 : decode cX2_firstRule 4 = .ok (.iload_n 1, 1) := by decide +kernel
theorem dX2_firstRule_5 : decode cX2_firstRule 5 = .ok (.invokevirtual 57, 3) := by decide +kernel
theorem dX2_firstRule_8 : decode cX2_firstRule 8 = .ok (.ireturn, 1) := by decide +kernel
theorem dX2_restMatches_0 : decode cX2_restMatches 0 = .ok (.aload_n 0, 1) := by decide +kernel
theorem dX2_restMatches_1 : decode cX2_restMatches 1 = .ok (.getfield 29, 3) := by decide +kernel
theorem dX2_restMatches_4 : decode cX2_restMatches 4 = .ok (.iload_n 1, 1) := by decide +kernel
theorem dX2_restMatches_5 : decode cX2_restMatches 5 = .ok (.iload_n 2, 1) := by decide +kernel
theorem dX2_restMatches_6 : decode cX2_restMatches 6 = .ok (.iload_n 3, 1) := by decide +kernel
theorem dX2_restMatches_7 : decode cX2_restMatches 7 = .ok (.invokevirtual 53, 3) := by decide +kernel
theorem dX2_restMatches_10 : decode cX2_restMatches 10 = .ok (.iconst (-1), 1) := by decide +kernel
theorem dX2_restMatches_11 : decode cX2_restMatches 11 = .ok (.if_icmp .eq 7, 3) := by decide +kernel
theorem dX2_restMatches_14 : decode cX2_restMatches 14 = .ok (.iconst 1, 1) := by decide +kernel
theorem dX2_restMatches_15 : decode cX2_restMatches 15 = .ok (.goto 4, 3) := by decide +kernel
theorem dX2_restMatches_18 : decode cX2_restMatches 18 = .ok (.iconst 0, 1) := by decide +kernel
theorem dX2_restMatches_19 : decode cX2_restMatches 19 = .ok (.ireturn, 1) := by decide +kernel
theorem dX2_elementEnd_0 : decode cX2_elementEnd 0 = .ok (.iload_n 1, 1) := by decide +kernel
theorem dX2_elementEnd_1 : decode cX2_elementEnd 1 = .ok (.bipush 35, 2) := by decide +kernel
theorem dX2_elementEnd_3 : decode cX2_elementEnd 3 = .ok (.if_icmp .ne 12, 3) := by decide +kernel
theorem dX2_elementEnd_6 : decode cX2_elementEnd 6 = .ok (.aload_n 0, 1) := by decide +kernel
theorem dX2_elementEnd_7 : decode cX2_elementEnd 7 = .ok (.getfield 14, 3) := by decide +kernel
theorem dX2_elementEnd_10 : decode cX2_elementEnd 10 = .ok (.iload_n 2, 1) := by decide +kernel
theorem dX2_elementEnd_11 : decode cX2_elementEnd 11 = .ok (.invokevirtual 57, 3) := by decide +kernel
theorem dX2_elementEnd_14 : decode cX2_elementEnd 14 = .ok (.ireturn, 1) := by decide +kernel
theorem dX2_elementEnd_15 : decode cX2_elementEnd 15 = .ok (.iload_n 1, 1) := by decide +kernel
theorem dX2_elementEnd_16 : decode cX2_elementEnd 16 = .ok (.bipush 64, 2) := by decide +kernel
theorem dX2_elementEnd_18 : decode cX2_elementEnd 18 = .ok (.if_icmp .ne 12, 3) := by decide +kernel
theorem dX2_elementEnd_21 : decode cX2_elementEnd 21 = .ok (.aload_n 0, 1) := by decide +kernel
theorem dX2_elementEnd_22 : decode cX2_elementEnd 22 = .ok (.getfield 20, 3) := by decide +kernel
theorem dX2_elementEnd_25 : decode cX2_elementEnd 25 = .ok (.iload_n 2, 1) := by decide +kernel
theorem dX2_elementEnd_26 : decode cX2_elementEnd 26 = .ok (.invokevirtual 57, 3) := by decide +kernel
theorem dX2_elementEnd_29 : decode cX2_elementEnd 29 = .ok (.ireturn, 1) := by decide +kernel
theorem dX2_elementEnd_30 : decode cX2_elementEnd 30 = .ok (.iload_n 1, 1) := by decide +kernel
theorem dX2_elementEnd_31 : decode cX2_elementEnd 31 = .ok (.invokestatic 60, 3) := by decide +kernel
theorem dX2_elementEnd_34 : decode cX2_elementEnd 34 = .ok (.ifCond .eq 17, 3) := by decide +kernel
theorem dX2_elementEnd_37 : decode cX2_elementEnd 37 = .ok (.aload_n 0, 1) := by decide +kernel
theorem dX2_elementEnd_38 : decode cX2_elementEnd 38 = .ok (.getfield 29, 3) := by decide +kernel
theorem dX2_elementEnd_41 : decode cX2_elementEnd 41 = .ok (.iload_n 1, 1) := by decide +kernel
theorem dX2_elementEnd_42 : decode cX2_elementEnd 42 = .ok (.bipush 65, 2) := by decide +kernel
theorem dX2_elementEnd_44 : decode cX2_elementEnd 44 = .ok (.isub, 1) := by decide +kernel
theorem dX2_elementEnd_45 : decode cX2_elementEnd 45 = .ok (.iconst 0, 1) := by decide +kernel
theorem dX2_elementEnd_46 : decode cX2_elementEnd 46 = .ok (.iload_n 2, 1) := by decide +kernel
theorem dX2_elementEnd_47 : decode cX2_elementEnd 47 = .ok (.invokevirtual 53, 3) := by decide +kernel
theorem dX2_elementEnd_50 : decode cX2_elementEnd 50 = .ok (.ireturn, 1) := by decide +kernel
theorem dX2_elementEnd_51 : decode cX2_elementEnd 51 = .ok (.aload_n 0, 1) := by decide +kernel
theorem dX2_elementEnd_52 : decode cX2_elementEnd 52 = .ok (.getfield 33, 3) := by decide +kernel
theorem dX2_elementEnd_55 : decode cX2_elementEnd 55 = .ok (.iload_n 2, 1) := by decide +kernel
theorem dX2_elementEnd_56 : decode cX2_elementEnd 56 = .ok (.invokevirtual 64, 3) := by decide +kernel
theorem dX2_elementEnd_59 : decode cX2_elementEnd 59 = .ok (.iload_n 1, 1) := by decide +kernel
theorem dX2_elementEnd_60 : decode cX2_elementEnd 60 = .ok (.if_icmp .ne 9, 3) := by decide +kernel
theorem dX2_elementEnd_63 : decode cX2_elementEnd 63 = .ok (.iload_n 2, 1) := by decide +kernel
theorem dX2_elementEnd_64 : decode cX2_elementEnd 64 = .ok (.iconst 1, 1) := by decide +kernel
theorem dX2_elementEnd_65 : decode cX2_elementEnd 65 = .ok (.iadd, 1) := by decide +kernel
theorem dX2_elementEnd_66 : decode cX2_elementEnd 66 = .ok (.goto 4, 3) := by decide +kernel
theorem dX2_elementEnd_69 : decode cX2_elementEnd 69 = .ok (.iconst (-1), 1) := by decide +kernel
theorem dX2_elementEnd_70 : decode cX2_elementEnd 70 = .ok (.ireturn, 1) := by decide +kernel
theorem dX2_markRuns_0 : decode cX2_markRuns 0 = .ok (.aload_n 0, 1) := by decide +kernel
theorem dX2_markRuns_1 : decode cX2_markRuns 1 = .ok (.getfield 33, 3) := by decide +kernel
theorem dX2_markRuns_4 : decode cX2_markRuns 4 = .ok (.iload_n 1, 1) := by decide +kernel
theorem dX2_markRuns_5 : decode cX2_markRuns 5 = .ok (.invokevirtual 64, 3) := by decide +kernel
theorem dX2_markRuns_8 : decode cX2_markRuns 8 = .ok (.istore_n 2, 1) := by decide +kernel
theorem dX2_markRuns_9 : decode cX2_markRuns 9 = .ok (.aload_n 0, 1) := by decide +kernel
theorem dX2_markRuns_10 : decode cX2_markRuns 10 = .ok (.getfield 14, 3) := by decide +kernel
theorem dX2_markRuns_13 : decode cX2_markRuns 13 = .ok (.iload_n 1, 1) := by decide +kernel
theorem dX2_markRuns_14 : decode cX2_markRuns 14 = .ok (.iload_n 2, 1) := by decide +kernel
theorem dX2_markRuns_15 : decode cX2_markRuns 15 = .ok (.invokestatic 67, 3) := by decide +kernel
theorem dX2_markRuns_18 : decode cX2_markRuns 18 = .ok (.ifCond .eq 14, 3) := by decide +kernel
theorem dX2_markRuns_21 : decode cX2_markRuns 21 = .ok (.aload_n 0, 1) := by decide +kernel
theorem dX2_markRuns_22 : decode cX2_markRuns 22 = .ok (.getfield 14, 3) := by decide +kernel
theorem dX2_markRuns_25 : decode cX2_markRuns 25 = .ok (.iload_n 1, 1) := by decide +kernel
theorem dX2_markRuns_26 : decode cX2_markRuns 26 = .ok (.invokestatic 70, 3) := by decide +kernel
theorem dX2_markRuns_29 : decode cX2_markRuns 29 = .ok (.goto 4, 3) := by decide +kernel
theorem dX2_markRuns_32 : decode cX2_markRuns 32 = .ok (.iconst (-1), 1) := by decide +kernel
theorem dX2_markRuns_33 : decode cX2_markRuns 33 = .ok (.invokevirtual 74, 3) := by decide +kernel
theorem dX2_markRuns_36 : decode cX2_markRuns 36 = .ok (.aload_n 0, 1) := by decide +kernel
theorem dX2_markRuns_37 : decode cX2_markRuns 37 = .ok (.getfield 20, 3) := by decide +kernel
theorem dX2_markRuns_40 : decode cX2_markRuns 40 = .ok (.iload_n 1, 1) := by decide +kernel
theorem dX2_markRuns_41 : decode cX2_markRuns 41 = .ok (.iload_n 2, 1) := by decide +kernel
theorem dX2_markRuns_42 : decode cX2_markRuns 42 = .ok (.invokestatic 77, 3) := by decide +kernel
theorem dX2_markRuns_45 : decode cX2_markRuns 45 = .ok (.ifCond .eq 14, 3) := by decide +kernel
theorem dX2_markRuns_48 : decode cX2_markRuns 48 = .ok (.aload_n 0, 1) := by decide +kernel
theorem dX2_markRuns_49 : decode cX2_markRuns 49 = .ok (.getfield 20, 3) := by decide +kernel
theorem dX2_markRuns_52 : decode cX2_markRuns 52 = .ok (.iload_n 1, 1) := by decide +kernel
theorem dX2_markRuns_53 : decode cX2_markRuns 53 = .ok (.invokestatic 70, 3) := by decide +kernel
theorem dX2_markRuns_56 : decode cX2_markRuns 56 = .ok (.goto 4, 3) := by decide +kernel
theorem dX2_markRuns_59 : decode cX2_markRuns 59 = .ok (.iconst (-1), 1) := by decide +kernel
theorem dX2_markRuns_60 : decode cX2_markRuns 60 = .ok (.invokevirtual 74, 3) := by decide +kernel
theorem dX2_markRuns_63 : decode cX2_markRuns 63 = .ok (.return_, 1) := by decide +kernel
theorem dX2_runEnd_0 : decode cX2_runEnd 0 = .ok (.aload_n 0, 1) := by decide +kernel
theorem dX2_runEnd_1 : decode cX2_runEnd 1 = .ok (.iload_n 1, 1) := by decide +kernel
theorem dX2_runEnd_2 : decode cX2_runEnd 2 = .ok (.iconst 1, 1) := by decide +kernel
theorem dX2_runEnd_3 : decode cX2_runEnd 3 = .ok (.iadd, 1) := by decide +kernel
theorem dX2_runEnd_4 : decode cX2_runEnd 4 = .ok (.invokevirtual 57, 3) := by decide +kernel
theorem dX2_runEnd_7 : decode cX2_runEnd 7 = .ok (.istore_n 2, 1) := by decide +kernel
theorem dX2_runEnd_8 : decode cX2_runEnd 8 = .ok (.iload_n 2, 1) := by decide +kernel
theorem dX2_runEnd_9 : decode cX2_runEnd 9 = .ok (.iconst (-1), 1) := by decide +kernel
theorem dX2_runEnd_10 : decode cX2_runEnd 10 = .ok (.if_icmp .ne 9, 3) := by decide +kernel
theorem dX2_runEnd_13 : decode cX2_runEnd 13 = .ok (.iload_n 1, 1) := by decide +kernel
theorem dX2_runEnd_14 : decode cX2_runEnd 14 = .ok (.iconst 1, 1) := by decide +kernel
theorem dX2_runEnd_15 : decode cX2_runEnd 15 = .ok (.iadd, 1) := by decide +kernel
theorem dX2_runEnd_16 : decode cX2_runEnd 16 = .ok (.goto 4, 3) := by decide +kernel
theorem dX2_runEnd_19 : decode cX2_runEnd 19 = .ok (.iload_n 2, 1) := by decide +kernel
theorem dX2_runEnd_20 : decode cX2_runEnd 20 = .ok (.ireturn, 1) := by decide +kernel
theorem dX2_matchIslands_0 : decode cX2_matchIslands 0 = .ok (.aload_n 0, 1) := by decide +kernel
theorem dX2_matchIslands_1 : decode cX2_matchIslands 1 = .ok (.getfield 23, 3) := by decide +kernel
theorem dX2_matchIslands_4 : decode cX2_matchIslands 4 = .ok (.iload_n 1, 1) := by decide +kernel
theorem dX2_matchIslands_5 : decode cX2_matchIslands 5 = .ok (.iconst (-1), 1) := by decide +kernel
theorem dX2_matchIslands_6 : decode cX2_matchIslands 6 = .ok (.invokevirtual 74, 3) := by decide +kernel
theorem dX2_matchIslands_9 : decode cX2_matchIslands 9 = .ok (.iconst 5, 1) := by decide +kernel
theorem dX2_matchIslands_10 : decode cX2_matchIslands 10 = .ok (.istore_n 2, 1) := by decide +kernel
theorem dX2_matchIslands_11 : decode cX2_matchIslands 11 = .ok (.iload_n 2, 1) := by decide +kernel
theorem dX2_matchIslands_12 : decode cX2_matchIslands 12 = .ok (.ifCond .lt 75, 3) := by decide +kernel
theorem dX2_matchIslands_15 : decode cX2_matchIslands 15 = .ok (.iconst (-1), 1) := by decide +kernel
theorem dX2_matchIslands_16 : decode cX2_matchIslands 16 = .ok (.istore_n 3, 1) := by decide +kernel
theorem dX2_matchIslands_17 : decode cX2_matchIslands 17 = .ok (.aload_n 0, 1) := by decide +kernel
theorem dX2_matchIslands_18 : decode cX2_matchIslands 18 = .ok (.getfield 33, 3) := by decide +kernel
theorem dX2_matchIslands_21 : decode cX2_matchIslands 21 = .ok (.iload_n 2, 1) := by decide +kernel
theorem dX2_matchIslands_22 : decode cX2_matchIslands 22 = .ok (.invokevirtual 80, 3) := by decide +kernel
theorem dX2_matchIslands_25 : decode cX2_matchIslands 25 = .ok (.ifCond .le 31, 3) := by decide +kernel
theorem dX2_matchIslands_28 : decode cX2_matchIslands 28 = .ok (.aload_n 0, 1) := by decide +kernel
theorem dX2_matchIslands_29 : decode cX2_matchIslands 29 = .ok (.aload_n 0, 1) := by decide +kernel
theorem dX2_matchIslands_30 : decode cX2_matchIslands 30 = .ok (.getfield 33, 3) := by decide +kernel
theorem dX2_matchIslands_33 : decode cX2_matchIslands 33 = .ok (.iload_n 2, 1) := by decide +kernel
theorem dX2_matchIslands_34 : decode cX2_matchIslands 34 = .ok (.iconst 0, 1) := by decide +kernel
theorem dX2_matchIslands_35 : decode cX2_matchIslands 35 = .ok (.invokevirtual 83, 3) := by decide +kernel
theorem dX2_matchIslands_38 : decode cX2_matchIslands 38 = .ok (.iload_n 1, 1) := by decide +kernel
theorem dX2_matchIslands_39 : decode cX2_matchIslands 39 = .ok (.invokevirtual 87, 3) := by decide +kernel
theorem dX2_matchIslands_42 : decode cX2_matchIslands 42 = .ok (.istore 4, 2) := by decide +kernel
theorem dX2_matchIslands_44 : decode cX2_matchIslands 44 = .ok (.aload_n 0, 1) := by decide +kernel
theorem dX2_matchIslands_45 : decode cX2_matchIslands 45 = .ok (.getfield 29, 3) := by decide +kernel
theorem dX2_matchIslands_48 : decode cX2_matchIslands 48 = .ok (.iload_n 2, 1) := by decide +kernel
theorem dX2_matchIslands_49 : decode cX2_matchIslands 49 = .ok (.iconst 1, 1) := by decide +kernel
theorem dX2_matchIslands_50 : decode cX2_matchIslands 50 = .ok (.iload 4, 2) := by decide +kernel
theorem dX2_matchIslands_52 : decode cX2_matchIslands 52 = .ok (.invokevirtual 53, 3) := by decide +kernel
theorem dX2_matchIslands_55 : decode cX2_matchIslands 55 = .ok (.istore_n 3, 1) := by decide +kernel
theorem dX2_matchIslands_56 : decode cX2_matchIslands 56 = .ok (.aload_n 0, 1) := by decide +kernel
theorem dX2_matchIslands_57 : decode cX2_matchIslands 57 = .ok (.getfield 29, 3) := by decide +kernel
theorem dX2_matchIslands_60 : decode cX2_matchIslands 60 = .ok (.iload_n 2, 1) := by decide +kernel
theorem dX2_matchIslands_61 : decode cX2_matchIslands 61 = .ok (.iconst 0, 1) := by decide +kernel
theorem dX2_matchIslands_62 : decode cX2_matchIslands 62 = .ok (.iload_n 1, 1) := by decide +kernel
theorem dX2_matchIslands_63 : decode cX2_matchIslands 63 = .ok (.iload_n 3, 1) := by decide +kernel
theorem dX2_matchIslands_64 : decode cX2_matchIslands 64 = .ok (.invokevirtual 90, 3) := by decide +kernel
theorem dX2_matchIslands_67 : decode cX2_matchIslands 67 = .ok (.iload_n 3, 1) := by decide +kernel
theorem dX2_matchIslands_68 : decode cX2_matchIslands 68 = .ok (.iconst (-1), 1) := by decide +kernel
theorem dX2_matchIslands_69 : decode cX2_matchIslands 69 = .ok (.if_icmp .eq 12, 3) := by decide +kernel
theorem dX2_matchIslands_72 : decode cX2_matchIslands 72 = .ok (.aload_n 0, 1) := by decide +kernel
theorem dX2_matchIslands_73 : decode cX2_matchIslands 73 = .ok (.getfield 23, 3) := by decide +kernel
theorem dX2_matchIslands_76 : decode cX2_matchIslands 76 = .ok (.iload_n 1, 1) := by decide +kernel
theorem dX2_matchIslands_77 : decode cX2_matchIslands 77 = .ok (.iload_n 2, 1) := by decide +kernel
theorem dX2_matchIslands_78 : decode cX2_matchIslands 78 = .ok (.invokevirtual 74, 3) := by decide +kernel
theorem dX2_matchIslands_81 : decode cX2_matchIslands 81 = .ok (.iinc 2 (-1), 3) := by decide +kernel
theorem dX2_matchIslands_84 : decode cX2_matchIslands 84 = .ok (.goto (-73), 3) := by decide +kernel
theorem dX2_matchIslands_87 : decode cX2_matchIslands 87 = .ok (.return_, 1) := by decide +kernel
theorem dX2_matchRests_0 : decode cX2_matchRests 0 = .ok (.aload_n 0, 1) := by decide +kernel
theorem dX2_matchRests_1 : decode cX2_matchRests 1 = .ok (.getfield 33, 3) := by decide +kernel
theorem dX2_matchRests_4 : decode cX2_matchRests 4 = .ok (.iload_n 1, 1) := by decide +kernel
theorem dX2_matchRests_5 : decode cX2_matchRests 5 = .ok (.invokevirtual 80, 3) := by decide +kernel
theorem dX2_matchRests_8 : decode cX2_matchRests 8 = .ok (.istore_n 3, 1) := by decide +kernel
theorem dX2_matchRests_9 : decode cX2_matchRests 9 = .ok (.iload_n 3, 1) := by decide +kernel
theorem dX2_matchRests_10 : decode cX2_matchRests 10 = .ok (.ifCond .le 14, 3) := by decide +kernel
theorem dX2_matchRests_13 : decode cX2_matchRests 13 = .ok (.aload_n 0, 1) := by decide +kernel
theorem dX2_matchRests_14 : decode cX2_matchRests 14 = .ok (.getfield 29, 3) := by decide +kernel
theorem dX2_matchRests_17 : decode cX2_matchRests 17 = .ok (.iload_n 1, 1) := by decide +kernel
theorem dX2_matchRests_18 : decode cX2_matchRests 18 = .ok (.iload_n 3, 1) := by decide +kernel
theorem dX2_matchRests_19 : decode cX2_matchRests 19 = .ok (.iload_n 2, 1) := by decide +kernel
theorem dX2_matchRests_20 : decode cX2_matchRests 20 = .ok (.iload_n 2, 1) := by decide +kernel
theorem dX2_matchRests_21 : decode cX2_matchRests 21 = .ok (.invokevirtual 90, 3) := by decide +kernel
theorem dX2_matchRests_24 : decode cX2_matchRests 24 = .ok (.iload_n 3, 1) := by decide +kernel
theorem dX2_matchRests_25 : decode cX2_matchRests 25 = .ok (.iconst 1, 1) := by decide +kernel
theorem dX2_matchRests_26 : decode cX2_matchRests 26 = .ok (.isub, 1) := by decide +kernel
theorem dX2_matchRests_27 : decode cX2_matchRests 27 = .ok (.istore 4, 2) := by decide +kernel
theorem dX2_matchRests_29 : decode cX2_matchRests 29 = .ok (.iload 4, 2) := by decide +kernel
theorem dX2_matchRests_31 : decode cX2_matchRests 31 = .ok (.ifCond .le 73, 3) := by decide +kernel
theorem dX2_matchRests_34 : decode cX2_matchRests 34 = .ok (.aload_n 0, 1) := by decide +kernel
theorem dX2_matchRests_35 : decode cX2_matchRests 35 = .ok (.getfield 33, 3) := by decide +kernel
theorem dX2_matchRests_38 : decode cX2_matchRests 38 = .ok (.iload_n 1, 1) := by decide +kernel
theorem dX2_matchRests_39 : decode cX2_matchRests 39 = .ok (.iload 4, 2) := by decide +kernel
theorem dX2_matchRests_41 : decode cX2_matchRests 41 = .ok (.invokevirtual 83, 3) := by decide +kernel
theorem dX2_matchRests_44 : decode cX2_matchRests 44 = .ok (.istore 5, 2) := by decide +kernel
theorem dX2_matchRests_46 : decode cX2_matchRests 46 = .ok (.iload 5, 2) := by decide +kernel
theorem dX2_matchRests_48 : decode cX2_matchRests 48 = .ok (.bipush 126, 2) := by decide +kernel
theorem dX2_matchRests_50 : decode cX2_matchRests 50 = .ok (.if_icmp .ne 14, 3) := by decide +kernel
theorem dX2_matchRests_53 : decode cX2_matchRests 53 = .ok (.aload_n 0, 1) := by decide +kernel
theorem dX2_matchRests_54 : decode cX2_matchRests 54 = .ok (.iload_n 1, 1) := by decide +kernel
theorem dX2_matchRests_55 : decode cX2_matchRests 55 = .ok (.iload 4, 2) := by decide +kernel
theorem dX2_matchRests_57 : decode cX2_matchRests 57 = .ok (.iload_n 2, 1) := by decide +kernel
theorem dX2_matchRests_58 : decode cX2_matchRests 58 = .ok (.invokevirtual 93, 3) := by decide +kernel
theorem dX2_matchRests_61 : decode cX2_matchRests 61 = .ok (.goto 22, 3) := by decide +kernel
theorem dX2_matchRests_64 : decode cX2_matchRests 64 = .ok (.aload_n 0, 1) := by decide +kernel
theorem dX2_matchRests_65 : decode cX2_matchRests 65 = .ok (.getfield 29, 3) := by decide +kernel
theorem dX2_matchRests_68 : decode cX2_matchRests 68 = .ok (.iload_n 1, 1) := by decide +kernel
theorem dX2_matchRests_69 : decode cX2_matchRests 69 = .ok (.iload 4, 2) := by decide +kernel
theorem dX2_matchRests_71 : decode cX2_matchRests 71 = .ok (.iconst 1, 1) := by decide +kernel
theorem dX2_matchRests_72 : decode cX2_matchRests 72 = .ok (.iadd, 1) := by decide +kernel
theorem dX2_matchRests_73 : decode cX2_matchRests 73 = .ok (.aload_n 0, 1) := by decide +kernel
theorem dX2_matchRests_74 : decode cX2_matchRests 74 = .ok (.iload 5, 2) := by decide +kernel
theorem dX2_matchRests_76 : decode cX2_matchRests 76 = .ok (.iload_n 2, 1) := by decide +kernel
theorem dX2_matchRests_77 : decode cX2_matchRests 77 = .ok (.invokevirtual 87, 3) := by decide +kernel
theorem dX2_matchRests_80 : decode cX2_matchRests 80 = .ok (.invokevirtual 53, 3) := by decide +kernel
theorem dX2_matchRests_83 : decode cX2_matchRests 83 = .ok (.istore 6, 2) := by decide +kernel
theorem dX2_matchRests_85 : decode cX2_matchRests 85 = .ok (.aload_n 0, 1) := by decide +kernel
theorem dX2_matchRests_86 : decode cX2_matchRests 86 = .ok (.getfield 29, 3) := by decide +kernel
theorem dX2_matchRests_89 : decode cX2_matchRests 89 = .ok (.iload_n 1, 1) := by decide +kernel
theorem dX2_matchRests_90 : decode cX2_matchRests 90 = .ok (.iload 4, 2) := by decide +kernel
theorem dX2_matchRests_92 : decode cX2_matchRests 92 = .ok (.iload_n 2, 1) := by decide +kernel
theorem dX2_matchRests_93 : decode cX2_matchRests 93 = .ok (.iload 6, 2) := by decide +kernel
theorem dX2_matchRests_95 : decode cX2_matchRests 95 = .ok (.invokevirtual 90, 3) := by decide +kernel
theorem dX2_matchRests_98 : decode cX2_matchRests 98 = .ok (.iinc 4 (-1), 3) := by decide +kernel
theorem dX2_matchRests_101 : decode cX2_matchRests 101 = .ok (.goto (-72), 3) := by decide +kernel
theorem dX2_matchRests_104 : decode cX2_matchRests 104 = .ok (.return_, 1) := by decide +kernel
theorem dX2_waterRestEnd_0 : decode cX2_waterRestEnd 0 = .ok (.aload_n 0, 1) := by decide +kernel
theorem dX2_waterRestEnd_1 : decode cX2_waterRestEnd 1 = .ok (.getfield 29, 3) := by decide +kernel
theorem dX2_waterRestEnd_4 : decode cX2_waterRestEnd 4 = .ok (.iload_n 1, 1) := by decide +kernel
theorem dX2_waterRestEnd_5 : decode cX2_waterRestEnd 5 = .ok (.iload_n 2, 1) := by decide +kernel
theorem dX2_waterRestEnd_6 : decode cX2_waterRestEnd 6 = .ok (.iconst 1, 1) := by decide +kernel
theorem dX2_waterRestEnd_7 : decode cX2_waterRestEnd 7 = .ok (.iadd, 1) := by decide +kernel
theorem dX2_waterRestEnd_8 : decode cX2_waterRestEnd 8 = .ok (.iload_n 3, 1) := by decide +kernel
theorem dX2_waterRestEnd_9 : decode cX2_waterRestEnd 9 = .ok (.invokevirtual 53, 3) := by decide +kernel
theorem dX2_waterRestEnd_12 : decode cX2_waterRestEnd 12 = .ok (.istore 4, 2) := by decide +kernel
theorem dX2_waterRestEnd_14 : decode cX2_waterRestEnd 14 = .ok (.iload 4, 2) := by decide +kernel
theorem dX2_waterRestEnd_16 : decode cX2_waterRestEnd 16 = .ok (.iconst (-1), 1) := by decide +kernel
theorem dX2_waterRestEnd_17 : decode cX2_waterRestEnd 17 = .ok (.if_icmp .eq 6, 3) := by decide +kernel
theorem dX2_waterRestEnd_20 : decode cX2_waterRestEnd 20 = .ok (.iload 4, 2) := by decide +kernel
theorem dX2_waterRestEnd_22 : decode cX2_waterRestEnd 22 = .ok (.ireturn, 1) := by decide +kernel
theorem dX2_waterRestEnd_23 : decode cX2_waterRestEnd 23 = .ok (.aload_n 0, 1) := by decide +kernel
theorem dX2_waterRestEnd_24 : decode cX2_waterRestEnd 24 = .ok (.getfield 23, 3) := by decide +kernel
theorem dX2_waterRestEnd_27 : decode cX2_waterRestEnd 27 = .ok (.iload_n 3, 1) := by decide +kernel
theorem dX2_waterRestEnd_28 : decode cX2_waterRestEnd 28 = .ok (.invokevirtual 57, 3) := by decide +kernel
theorem dX2_waterRestEnd_31 : decode cX2_waterRestEnd 31 = .ok (.istore 5, 2) := by decide +kernel
theorem dX2_waterRestEnd_33 : decode cX2_waterRestEnd 33 = .ok (.iload 5, 2) := by decide +kernel
theorem dX2_waterRestEnd_35 : decode cX2_waterRestEnd 35 = .ok (.iconst (-1), 1) := by decide +kernel
theorem dX2_waterRestEnd_36 : decode cX2_waterRestEnd 36 = .ok (.if_icmp .eq 24, 3) := by decide +kernel
theorem dX2_waterRestEnd_39 : decode cX2_waterRestEnd 39 = .ok (.aload_n 0, 1) := by decide +kernel
theorem dX2_waterRestEnd_40 : decode cX2_waterRestEnd 40 = .ok (.getfield 29, 3) := by decide +kernel
theorem dX2_waterRestEnd_43 : decode cX2_waterRestEnd 43 = .ok (.iload_n 1, 1) := by decide +kernel
theorem dX2_waterRestEnd_44 : decode cX2_waterRestEnd 44 = .ok (.iload_n 2, 1) := by decide +kernel
theorem dX2_waterRestEnd_45 : decode cX2_waterRestEnd 45 = .ok (.aload_n 0, 1) := by decide +kernel
theorem dX2_waterRestEnd_46 : decode cX2_waterRestEnd 46 = .ok (.getfield 29, 3) := by decide +kernel
theorem dX2_waterRestEnd_49 : decode cX2_waterRestEnd 49 = .ok (.iload 5, 2) := by decide +kernel
theorem dX2_waterRestEnd_51 : decode cX2_waterRestEnd 51 = .ok (.iconst 0, 1) := by decide +kernel
theorem dX2_waterRestEnd_52 : decode cX2_waterRestEnd 52 = .ok (.iload_n 3, 1) := by decide +kernel
theorem dX2_waterRestEnd_53 : decode cX2_waterRestEnd 53 = .ok (.invokevirtual 53, 3) := by decide +kernel
theorem dX2_waterRestEnd_56 : decode cX2_waterRestEnd 56 = .ok (.invokevirtual 53, 3) := by decide +kernel
theorem dX2_waterRestEnd_59 : decode cX2_waterRestEnd 59 = .ok (.ireturn, 1) := by decide +kernel
theorem dX2_waterRestEnd_60 : decode cX2_waterRestEnd 60 = .ok (.aload_n 0, 1) := by decide +kernel
theorem dX2_waterRestEnd_61 : decode cX2_waterRestEnd 61 = .ok (.getfield 33, 3) := by decide +kernel
theorem dX2_waterRestEnd_64 : decode cX2_waterRestEnd 64 = .ok (.iload_n 3, 1) := by decide +kernel
theorem dX2_waterRestEnd_65 : decode cX2_waterRestEnd 65 = .ok (.invokevirtual 64, 3) := by decide +kernel
theorem dX2_waterRestEnd_68 : decode cX2_waterRestEnd 68 = .ok (.istore 6, 2) := by decide +kernel
theorem dX2_waterRestEnd_70 : decode cX2_waterRestEnd 70 = .ok (.iload 6, 2) := by decide +kernel
theorem dX2_waterRestEnd_72 : decode cX2_waterRestEnd 72 = .ok (.iconst (-1), 1) := by decide +kernel
theorem dX2_waterRestEnd_73 : decode cX2_waterRestEnd 73 = .ok (.if_icmp .eq 16, 3) := by decide +kernel
theorem dX2_waterRestEnd_76 : decode cX2_waterRestEnd 76 = .ok (.iload 6, 2) := by decide +kernel
theorem dX2_waterRestEnd_78 : decode cX2_waterRestEnd 78 = .ok (.aload_n 0, 1) := by decide +kernel
theorem dX2_waterRestEnd_79 : decode cX2_waterRestEnd 79 = .ok (.getfield 33, 3) := by decide +kernel
theorem dX2_waterRestEnd_82 : decode cX2_waterRestEnd 82 = .ok (.iload_n 1, 1) := by decide +kernel
theorem dX2_waterRestEnd_83 : decode cX2_waterRestEnd 83 = .ok (.invokevirtual 96, 3) := by decide +kernel
theorem dX2_waterRestEnd_86 : decode cX2_waterRestEnd 86 = .ok (.if_icmp .ne 5, 3) := by decide +kernel
theorem dX2_waterRestEnd_89 : decode cX2_waterRestEnd 89 = .ok (.iconst (-1), 1) := by decide +kernel
theorem dX2_waterRestEnd_90 : decode cX2_waterRestEnd 90 = .ok (.ireturn, 1) := by decide +kernel
theorem dX2_waterRestEnd_91 : decode cX2_waterRestEnd 91 = .ok (.aload_n 0, 1) := by decide +kernel
theorem dX2_waterRestEnd_92 : decode cX2_waterRestEnd 92 = .ok (.getfield 29, 3) := by decide +kernel
theorem dX2_waterRestEnd_95 : decode cX2_waterRestEnd 95 = .ok (.iload_n 1, 1) := by decide +kernel
theorem dX2_waterRestEnd_96 : decode cX2_waterRestEnd 96 = .ok (.iload_n 2, 1) := by decide +kernel
theorem dX2_waterRestEnd_97 : decode cX2_waterRestEnd 97 = .ok (.iload_n 3, 1) := by decide +kernel
theorem dX2_waterRestEnd_98 : decode cX2_waterRestEnd 98 = .ok (.iconst 1, 1) := by decide +kernel
theorem dX2_waterRestEnd_99 : decode cX2_waterRestEnd 99 = .ok (.iadd, 1) := by decide +kernel
theorem dX2_waterRestEnd_100 : decode cX2_waterRestEnd 100 = .ok (.invokevirtual 53, 3) := by decide +kernel
theorem dX2_waterRestEnd_103 : decode cX2_waterRestEnd 103 = .ok (.ireturn, 1) := by decide +kernel
theorem dX3_init_0 : decode cX3_init 0 = .ok (.aload_n 0, 1) := by decide +kernel
theorem dX3_init_1 : decode cX3_init 1 = .ok (.invokespecial 3, 3) := by decide +kernel
theorem dX3_init_4 : decode cX3_init 4 = .ok (.aload_n 0, 1) := by decide +kernel
theorem dX3_init_5 : decode cX3_init 5 = .ok (.new 9, 3) := by decide +kernel
theorem dX3_init_8 : decode cX3_init 8 = .ok (.dup, 1) := by decide +kernel
theorem dX3_init_9 : decode cX3_init 9 = .ok (.bipush 100, 2) := by decide +kernel
theorem dX3_init_11 : decode cX3_init 11 = .ok (.invokespecial 11, 3) := by decide +kernel
theorem dX3_init_14 : decode cX3_init 14 = .ok (.putfield 14, 3) := by decide +kernel
theorem dX3_init_17 : decode cX3_init 17 = .ok (.aload_n 0, 1) := by decide +kernel
theorem dX3_init_18 : decode cX3_init 18 = .ok (.new 9, 3) := by decide +kernel
theorem dX3_init_21 : decode cX3_init 21 = .ok (.dup, 1) := by decide +kernel
theorem dX3_init_22 : decode cX3_init 22 = .ok (.bipush 100, 2) := by decide +kernel
theorem dX3_init_24 : decode cX3_init 24 = .ok (.invokespecial 11, 3) := by decide +kernel
theorem dX3_init_27 : decode cX3_init 27 = .ok (.putfield 20, 3) := by decide +kernel
theorem dX3_init_30 : decode cX3_init 30 = .ok (.aload_n 0, 1) := by decide +kernel
theorem dX3_init_31 : decode cX3_init 31 = .ok (.new 9, 3) := by decide +kernel
theorem dX3_init_34 : decode cX3_init 34 = .ok (.dup, 1) := by decide +kernel
theorem dX3_init_35 : decode cX3_init 35 = .ok (.bipush 100, 2) := by decide +kernel
theorem dX3_init_37 : decode cX3_init 37 = .ok (.invokespecial 11, 3) := by decide +kernel
theorem dX3_init_40 : decode cX3_init 40 = .ok (.putfield 23, 3) := by decide +kernel
theorem dX3_init_43 : decode cX3_init 43 = .ok (.aload_n 0, 1) := by decide +kernel
theorem dX3_init_44 : decode cX3_init 44 = .ok (.new 9, 3) := by decide +kernel
theorem dX3_init_47 : decode cX3_init 47 = .ok (.dup, 1) := by decide +kernel
theorem dX3_init_48 : decode cX3_init 48 = .ok (.bipush 100, 2) := by decide +kernel
theorem dX3_init_50 : decode cX3_init 50 = .ok (.invokespecial 11, 3) := by decide +kernel
theorem dX3_init_53 : decode cX3_init 53 = .ok (.putfield 26, 3) := by decide +kernel
theorem dX3_init_56 : decode cX3_init 56 = .ok (.aload_n 0, 1) := by decide +kernel
theorem dX3_init_57 : decode cX3_init 57 = .ok (.new 9, 3) := by decide +kernel
theorem dX3_init_60 : decode cX3_init 60 = .ok (.dup, 1) := by decide +kernel
theorem dX3_init_61 : decode cX3_init 61 = .ok (.bipush 100, 2) := by decide +kernel
theorem dX3_init_63 : decode cX3_init 63 = .ok (.invokespecial 11, 3) := by decide +kernel
theorem dX3_init_66 : decode cX3_init 66 = .ok (.putfield 29, 3) := by decide +kernel
theorem dX3_init_69 : decode cX3_init 69 = .ok (.aload_n 0, 1) := by decide +kernel
theorem dX3_init_70 : decode cX3_init 70 = .ok (.new 9, 3) := by decide +kernel
theorem dX3_init_73 : decode cX3_init 73 = .ok (.dup, 1) := by decide +kernel
theorem dX3_init_74 : decode cX3_init 74 = .ok (.bipush 100, 2) := by decide +kernel
theorem dX3_init_76 : decode cX3_init 76 = .ok (.invokespecial 11, 3) := by decide +kernel
theorem dX3_init_79 : decode cX3_init 79 = .ok (.putfield 32, 3) := by decide +kernel
theorem dX3_init_82 : decode cX3_init 82 = .ok (.aload_n 0, 1) := by decide +kernel
theorem dX3_init_83 : decode cX3_init 83 = .ok (.new 9, 3) := by decide +kernel
theorem dX3_init_86 : decode cX3_init 86 = .ok (.dup, 1) := by decide +kernel
theorem dX3_init_87 : decode cX3_init 87 = .ok (.bipush 100, 2) := by decide +kernel
theorem dX3_init_89 : decode cX3_init 89 = .ok (.invokespecial 11, 3) := by decide +kernel
theorem dX3_init_92 : decode cX3_init 92 = .ok (.putfield 35, 3) := by decide +kernel
theorem dX3_init_95 : decode cX3_init 95 = .ok (.aload_n 0, 1) := by decide +kernel
theorem dX3_init_96 : decode cX3_init 96 = .ok (.new 9, 3) := by decide +kernel
theorem dX3_init_99 : decode cX3_init 99 = .ok (.dup, 1) := by decide +kernel
theorem dX3_init_100 : decode cX3_init 100 = .ok (.bipush 100, 2) := by decide +kernel
theorem dX3_init_102 : decode cX3_init 102 = .ok (.invokespecial 11, 3) := by decide +kernel
theorem dX3_init_105 : decode cX3_init 105 = .ok (.putfield 38, 3) := by decide +kernel
theorem dX3_init_108 : decode cX3_init 108 = .ok (.aload_n 0, 1) := by decide +kernel
theorem dX3_init_109 : decode cX3_init 109 = .ok (.new 9, 3) := by decide +kernel
theorem dX3_init_112 : decode cX3_init 112 = .ok (.dup, 1) := by decide +kernel
theorem dX3_init_113 : decode cX3_init 113 = .ok (.bipush 100, 2) := by decide +kernel
theorem dX3_init_115 : decode cX3_init 115 = .ok (.invokespecial 11, 3) := by decide +kernel
theorem dX3_init_118 : decode cX3_init 118 = .ok (.putfield 41, 3) := by decide +kernel
theorem dX3_init_121 : decode cX3_init 121 = .ok (.aload_n 0, 1) := by decide +kernel
theorem dX3_init_122 : decode cX3_init 122 = .ok (.iconst 0, 1) := by decide +kernel
theorem dX3_init_123 : decode cX3_init 123 = .ok (.putfield 44, 3) := by decide +kernel
theorem dX3_init_126 : decode cX3_init 126 = .ok (.aload_n 0, 1) := by decide +kernel
theorem dX3_init_127 : decode cX3_init 127 = .ok (.iconst 0, 1) := by decide +kernel
theorem dX3_init_128 : decode cX3_init 128 = .ok (.putfield 48, 3) := by decide +kernel
theorem dX3_init_131 : decode cX3_init 131 = .ok (.aload_n 0, 1) := by decide +kernel
theorem dX3_init_132 : decode cX3_init 132 = .ok (.iconst 0, 1) := by decide +kernel
theorem dX3_init_133 : decode cX3_init 133 = .ok (.putfield 51, 3) := by decide +kernel
theorem dX3_init_136 : decode cX3_init 136 = .ok (.aload_n 0, 1) := by decide +kernel
theorem dX3_init_137 : decode cX3_init 137 = .ok (.iconst 0, 1) := by decide +kernel
theorem dX3_init_138 : decode cX3_init 138 = .ok (.putfield 54, 3) := by decide +kernel
theorem dX3_init_141 : decode cX3_init 141 = .ok (.aload_n 0, 1) := by decide +kernel
theorem dX3_init_142 : decode cX3_init 142 = .ok (.iconst 0, 1) := by decide +kernel
theorem dX3_init_143 : decode cX3_init 143 = .ok (.putfield 57, 3) := by decide +kernel
theorem dX3_init_146 : decode cX3_init 146 = .ok (.aload_n 0, 1) := by decide +kernel
theorem dX3_init_147 : decode cX3_init 147 = .ok (.aload_n 1, 1) := by decide +kernel
theorem dX3_init_148 : decode cX3_init 148 = .ok (.putfield 60, 3) := by decide +kernel
theorem dX3_init_151 : decode cX3_init 151 = .ok (.aload_n 0, 1) := by decide +kernel
theorem dX3_init_152 : decode cX3_init 152 = .ok (.aload_n 2, 1) := by decide +kernel
theorem dX3_init_153 : decode cX3_init 153 = .ok (.putfield 64, 3) := by decide +kernel
theorem dX3_init_156 : decode cX3_init 156 = .ok (.return_, 1) := by decide +kernel
theorem dX3_update_0 : decode cX3_update 0 = .ok (.aload_n 0, 1) := by decide +kernel
theorem dX3_update_1 : decode cX3_update 1 = .ok (.invokevirtual 68, 3) := by decide +kernel
theorem dX3_update_4 : decode cX3_update 4 = .ok (.iconst 0, 1) := by decide +kernel
theorem dX3_update_5 : decode cX3_update 5 = .ok (.istore_n 1, 1) := by decide +kernel
theorem dX3_update_6 : decode cX3_update 6 = .ok (.aload_n 0, 1) := by decide +kernel
theorem dX3_update_7 : decode cX3_update 7 = .ok (.getfield 60, 3) := by decide +kernel
theorem dX3_update_10 : decode cX3_update 10 = .ok (.invokevirtual 71, 3) := by decide +kernel
theorem dX3_update_13 : decode cX3_update 13 = .ok (.istore_n 2, 1) := by decide +kernel
theorem dX3_update_14 : decode cX3_update 14 = .ok (.iconst 0, 1) := by decide +kernel
theorem dX3_update_15 : decode cX3_update 15 = .ok (.istore_n 3, 1) := by decide +kernel
theorem dX3_update_16 : decode cX3_update 16 = .ok (.iload_n 3, 1) := by decide +kernel
theorem dX3_update_17 : decode cX3_update 17 = .ok (.iload_n 2, 1) := by decide +kernel
theorem dX3_update_18 : decode cX3_update 18 = .ok (.if_icmp .ge 47, 3) := by decide +kernel
theorem dX3_update_21 : decode cX3_update 21 = .ok (.iload_n 3, 1) := by decide +kernel
theorem dX3_update_22 : decode cX3_update 22 = .ok (.iload_n 1, 1) := by decide +kernel
theorem dX3_update_23 : decode cX3_update 23 = .ok (.if_icmp .ne 9, 3) := by decide +kernel
theorem dX3_update_26 : decode cX3_update 26 = .ok (.aload_n 0, 1) := by decide +kernel
theorem dX3_update_27 : decode cX3_update 27 = .ok (.iload_n 3, 1) := by decide +kernel
theorem dX3_update_28 : decode cX3_update 28 = .ok (.invokevirtual 77, 3) := by decide +kernel
theorem dX3_update_31 : decode cX3_update 31 = .ok (.istore_n 1, 1) := by decide +kernel
theorem dX3_update_32 : decode cX3_update 32 = .ok (.aload_n 0, 1) := by decide +kernel
theorem dX3_update_33 : decode cX3_update 33 = .ok (.getfield 38, 3) := by decide +kernel
theorem dX3_update_36 : decode cX3_update 36 = .ok (.iload_n 3, 1) := by decide +kernel
theorem dX3_update_37 : decode cX3_update 37 = .ok (.invokevirtual 81, 3) := by decide +kernel
theorem dX3_update_40 : decode cX3_update 40 = .ok (.iconst (-1), 1) := by decide +kernel
theorem dX3_update_41 : decode cX3_update 41 = .ok (.if_icmp .eq 18, 3) := by decide +kernel
theorem dX3_update_44 : decode cX3_update 44 = .ok (.aload_n 0, 1) := by decide +kernel
theorem dX3_update_45 : decode cX3_update 45 = .ok (.iload_n 3, 1) := by decide +kernel
theorem dX3_update_46 : decode cX3_update 46 = .ok (.invokevirtual 84, 3) := by decide +kernel
theorem dX3_update_49 : decode cX3_update 49 = .ok (.aload_n 0, 1) := by decide +kernel
theorem dX3_update_50 : decode cX3_update 50 = .ok (.aload_n 0, 1) := by decide +kernel
theorem dX3_update_51 : decode cX3_update 51 = .ok (.getfield 44, 3) := by decide +kernel
theorem dX3_update_54 : decode cX3_update 54 = .ok (.iconst 1, 1) := by decide +kernel
theorem dX3_update_55 : decode cX3_update 55 = .ok (.isub, 1) := by decide +kernel
theorem dX3_update_56 : decode cX3_update 56 = .ok (.invokevirtual 87, 3) := by decide +kernel
theorem dX3_update_59 : decode cX3_update 59 = .ok (.iinc 3 1, 3) := by decide +kernel
theorem dX3_update_62 : decode cX3_update 62 = .ok (.goto (-46), 3) := by decide +kernel
theorem dX3_update_65 : decode cX3_update 65 = .ok (.return_, 1) := by decide +kernel
theorem dX3_total_0 : decode cX3_total 0 = .ok (.aload_n 0, 1) := by decide +kernel
theorem dX3_total_1 : decode cX3_total 1 = .ok (.getfield 44, 3) := by decide +kernel
theorem dX3_total_4 : decode cX3_total 4 = .ok (.ireturn, 1) := by decide +kernel
theorem dX3_has_0 : decode cX3_has 0 = .ok (.iload_n 1, 1) := by decide +kernel
theorem dX3_has_1 : decode cX3_has 1 = .ok (.ifCond .lt 15, 3) := by decide +kernel
theorem dX3_has_4 : decode cX3_has 4 = .ok (.iload_n 1, 1) := by decide +kernel
theorem dX3_has_5 : decode cX3_has 5 = .ok (.aload_n 0, 1) := by decide +kernel
theorem dX3_has_6 : decode cX3_has 6 = .ok (.getfield 44, 3) := by decide +kernel
theorem dX3_has_9 : decode cX3_has 9 = .ok (.if_icmp .ge 7, 3) := by decide +kernel
theorem dX3_has_12 : decode cX3_has 12 = .ok (.iconst 1, 1) := by decide +kernel
theorem dX3_has_13 : decode cX3_has 13 = .ok (.goto 4, 3) := by decide +kernel
theorem dX3_has_16 : decode cX3_has 16 = .ok (.iconst 0, 1) := by decide +kernel
theorem dX3_has_17 : decode cX3_has 17 = .ok (.ireturn, 1) := by decide +kernel
theorem dX3_topLevelTotal_0 : decode cX3_topLevelTotal 0 = .ok (.aload_n 0, 1) := by decide +kernel
theorem dX3_topLevelTotal_1 : decode cX3_topLevelTotal 1 = .ok (.getfield 48, 3) := by decide +kernel
theorem dX3_topLevelTotal_4 : decode cX3_topLevelTotal 4 = .ok (.ireturn, 1) := by decide +kernel
theorem dX3_topWater_0 : decode cX3_topWater 0 = .ok (.aload_n 0, 1) := by decide +kernel
theorem dX3_topWater_1 : decode cX3_topWater 1 = .ok (.getfield 51, 3) := by decide +kernel
theorem dX3_topWater_4 : decode cX3_topWater 4 = .ok (.ireturn, 1) := by decide +kernel
theorem dX3_longestTopWater_0 : decode cX3_longestTopWater 0 = .ok (.aload_n 0, 1) := by decide +kernel
theorem dX3_longestTopWater_1 : decode cX3_longestTopWater 1 = .ok (.getfield 57, 3) := by decide +kernel
theorem dX3_longestTopWater_4 : decode cX3_longestTopWater 4 = .ok (.ireturn, 1) := by decide +kernel
theorem dX3_ruleOf_0 : decode cX3_ruleOf 0 = .ok (.aload_n 0, 1) := by decide +kernel
theorem dX3_ruleOf_1 : decode cX3_ruleOf 1 = .ok (.getfield 14, 3) := by decide +kernel
theorem dX3_ruleOf_4 : decode cX3_ruleOf 4 = .ok (.iload_n 1, 1) := by decide +kernel
theorem dX3_ruleOf_5 : decode cX3_ruleOf 5 = .ok (.invokevirtual 81, 3) := by decide +kernel
theorem dX3_ruleOf_8 : decode cX3_ruleOf 8 = .ok (.ireturn, 1) := by decide +kernel
theorem dX3_startOf_0 : decode cX3_startOf 0 = .ok (.aload_n 0, 1) := by decide +kernel
theorem dX3_startOf_1 : decode cX3_startOf 1 = .ok (.getfield 20, 3) := by decide +kernel
theorem dX3_startOf_4 : decode cX3_startOf 4 = .ok (.iload_n 1, 1) := by decide +kernel
theorem dX3_startOf_5 : decode cX3_startOf 5 = .ok (.invokevirtual 81, 3) := by decide +kernel
theorem dX3_startOf_8 : decode cX3_startOf 8 = .ok (.ireturn, 1) := by decide +kernel
theorem dX3_endOf_0 : decode cX3_endOf 0 = .ok (.aload_n 0, 1) := by decide +kernel
theorem dX3_endOf_1 : decode cX3_endOf 1 = .ok (.getfield 23, 3) := by decide +kernel
theorem dX3_endOf_4 : decode cX3_endOf 4 = .ok (.iload_n 1, 1) := by decide +kernel
theorem dX3_endOf_5 : decode cX3_endOf 5 = .ok (.invokevirtual 81, 3) := by decide +kernel
theorem dX3_endOf_8 : decode cX3_endOf 8 = .ok (.ireturn, 1) := by decide +kernel
theorem dX3_parentOf_0 : decode cX3_parentOf 0 = .ok (.aload_n 0, 1) := by decide +kernel
theorem dX3_parentOf_1 : decode cX3_parentOf 1 = .ok (.getfield 26, 3) := by decide +kernel
theorem dX3_parentOf_4 : decode cX3_parentOf 4 = .ok (.iload_n 1, 1) := by decide +kernel
theorem dX3_parentOf_5 : decode cX3_parentOf 5 = .ok (.invokevirtual 81, 3) := by decide +kernel
theorem dX3_parentOf_8 : decode cX3_parentOf 8 = .ok (.ireturn, 1) := by decide +kernel
theorem dX3_depthOf_0 : decode cX3_depthOf 0 = .ok (.aload_n 0, 1) := by decide +kernel
theorem dX3_depthOf_1 : decode cX3_depthOf 1 = .ok (.getfield 29, 3) := by decide +kernel
theorem dX3_depthOf_4 : decode cX3_depthOf 4 = .ok (.iload_n 1, 1) := by decide +kernel
theorem dX3_depthOf_5 : decode cX3_depthOf 5 = .ok (.invokevirtual 81, 3) := by decide +kernel
theorem dX3_depthOf_8 : decode cX3_depthOf 8 = .ok (.ireturn, 1) := by decide +kernel
theorem dX3_waterOf_0 : decode cX3_waterOf 0 = .ok (.aload_n 0, 1) := by decide +kernel
theorem dX3_waterOf_1 : decode cX3_waterOf 1 = .ok (.getfield 32, 3) := by decide +kernel
theorem dX3_waterOf_4 : decode cX3_waterOf 4 = .ok (.iload_n 1, 1) := by decide +kernel
theorem dX3_waterOf_5 : decode cX3_waterOf 5 = .ok (.invokevirtual 81, 3) := by decide +kernel
theorem dX3_waterOf_8 : decode cX3_waterOf 8 = .ok (.ireturn, 1) := by decide +kernel
theorem dX3_numberOf_0 : decode cX3_numberOf 0 = .ok (.aload_n 0, 1) := by decide +kernel
theorem dX3_numberOf_1 : decode cX3_numberOf 1 = .ok (.getfield 35, 3) := by decide +kernel
theorem dX3_numberOf_4 : decode cX3_numberOf 4 = .ok (.iload_n 1, 1) := by decide +kernel
theorem dX3_numberOf_5 : decode cX3_numberOf 5 = .ok (.invokevirtual 81, 3) := by decide +kernel
theorem dX3_numberOf_8 : decode cX3_numberOf 8 = .ok (.ireturn, 1) := by decide +kernel
theorem dX3_totalOf_0 : decode cX3_totalOf 0 = .ok (.iconst 0, 1) := by decide +kernel
theorem dX3_totalOf_1 : decode cX3_totalOf 1 = .ok (.istore_n 2, 1) := by decide +kernel
theorem dX3_totalOf_2 : decode cX3_totalOf 2 = .ok (.iconst 0, 1) := by decide +kernel
theorem dX3_totalOf_3 : decode cX3_totalOf 3 = .ok (.istore_n 3, 1) := by decide +kernel
theorem dX3_totalOf_4 : decode cX3_totalOf 4 = .ok (.iload_n 3, 1) := by decide +kernel
theorem dX3_totalOf_5 : decode cX3_totalOf 5 = .ok (.aload_n 0, 1) := by decide +kernel
theorem dX3_totalOf_6 : decode cX3_totalOf 6 = .ok (.getfield 44, 3) := by decide +kernel
theorem dX3_totalOf_9 : decode cX3_totalOf 9 = .ok (.if_icmp .ge 24, 3) := by decide +kernel
theorem dX3_totalOf_12 : decode cX3_totalOf 12 = .ok (.aload_n 0, 1) := by decide +kernel
theorem dX3_totalOf_13 : decode cX3_totalOf 13 = .ok (.getfield 14, 3) := by decide +kernel
theorem dX3_totalOf_16 : decode cX3_totalOf 16 = .ok (.iload_n 3, 1) := by decide +kernel
theorem dX3_totalOf_17 : decode cX3_totalOf 17 = .ok (.invokevirtual 81, 3) := by decide +kernel
theorem dX3_totalOf_20 : decode cX3_totalOf 20 = .ok (.iload_n 1, 1) := by decide +kernel
theorem dX3_totalOf_21 : decode cX3_totalOf 21 = .ok (.if_icmp .ne 6, 3) := by decide +kernel
theorem dX3_totalOf_24 : decode cX3_totalOf 24 = .ok (.iinc 2 1, 3) := by decide +kernel
theorem dX3_totalOf_27 : decode cX3_totalOf 27 = .ok (.iinc 3 1, 3) := by decide +kernel
theorem dX3_totalOf_30 : decode cX3_totalOf 30 = .ok (.goto (-26), 3) := by decide +kernel
theorem dX3_totalOf_33 : decode cX3_totalOf 33 = .ok (.iload_n 2, 1) := by decide +kernel
theorem dX3_totalOf_34 : decode cX3_totalOf 34 = .ok (.ireturn, 1) := by decide +kernel
theorem dX3_innermostAt_0 : decode cX3_innermostAt 0 = .ok (.aload_n 0, 1) := by decide +kernel
theorem dX3_innermostAt_1 : decode cX3_innermostAt 1 = .ok (.getfield 44, 3) := by decide +kernel
theorem dX3_innermostAt_4 : decode cX3_innermostAt 4 = .ok (.iconst 1, 1) := by decide +kernel
theorem dX3_innermostAt_5 : decode cX3_innermostAt 5 = .ok (.isub, 1) := by decide +kernel
theorem dX3_innermostAt_6 : decode cX3_innermostAt 6 = .ok (.istore_n 2, 1) := by decide +kernel
theorem dX3_innermostAt_7 : decode cX3_innermostAt 7 = .ok (.iload_n 2, 1) := by decide +kernel
theorem dX3_innermostAt_8 : decode cX3_innermostAt 8 = .ok (.ifCond .lt 35, 3) := by decide +kernel
theorem dX3_innermostAt_11 : decode cX3_innermostAt 11 = .ok (.aload_n 0, 1) := by decide +kernel
theorem dX3_innermostAt_12 : decode cX3_innermostAt 12 = .ok (.getfield 20, 3) := by decide +kernel
theorem dX3_innermostAt_15 : decode cX3_innermostAt 15 = .ok (.iload_n 2, 1) := by decide +kernel
theorem dX3_innermostAt_16 : decode cX3_innermostAt 16 = .ok (.invokevirtual 81, 3) := by decide +kernel
theorem dX3_innermostAt_19 : decode cX3_innermostAt 19 = .ok (.iload_n 1, 1) := by decide +kernel
theorem dX3_innermostAt_20 : decode cX3_innermostAt 20 = .ok (.if_icmp .gt 17, 3) := by decide +kernel
theorem dX3_innermostAt_23 : decode cX3_innermostAt 23 = .ok (.iload_n 1, 1) := by decide +kernel
theorem dX3_innermostAt_24 : decode cX3_innermostAt 24 = .ok (.aload_n 0, 1) := by decide +kernel
theorem dX3_innermostAt_25 : decode cX3_innermostAt 25 = .ok (.getfield 23, 3) := by decide +kernel
theorem dX3_innermostAt_28 : decode cX3_innermostAt 28 = .ok (.iload_n 2, 1) := by decide +kernel
theorem dX3_innermostAt_29 : decode cX3_innermostAt 29 = .ok (.invokevirtual 81, 3) := by decide +kernel
theorem dX3_innermostAt_32 : decode cX3_innermostAt 32 = .ok (.if_icmp .ge 5, 3) := by decide +kernel
theorem dX3_innermostAt_35 : decode cX3_innermostAt 35 = .ok (.iload_n 2, 1) := by decide +kernel
theorem dX3_innermostAt_36 : decode cX3_innermostAt 36 = .ok (.ireturn, 1) := by decide +kernel
theorem dX3_innermostAt_37 : decode cX3_innermostAt 37 = .ok (.iinc 2 (-1), 3) := by decide +kernel
theorem dX3_innermostAt_40 : decode cX3_innermostAt 40 = .ok (.goto (-33), 3) := by decide +kernel
theorem dX3_innermostAt_43 : decode cX3_innermostAt 43 = .ok (.iconst (-1), 1) := by decide +kernel
theorem dX3_innermostAt_44 : decode cX3_innermostAt 44 = .ok (.ireturn, 1) := by decide +kernel
theorem dX3_mixInto_0 : decode cX3_mixInto 0 = .ok (.lload_n 1, 1) := by decide +kernel
theorem dX3_mixInto_1 : decode cX3_mixInto 1 = .ok (.aload_n 0, 1) := by decide +kernel
theorem dX3_mixInto_2 : decode cX3_mixInto 2 = .ok (.getfield 44, 3) := by decide +kernel
theorem dX3_mixInto_5 : decode cX3_mixInto 5 = .ok (.i2l, 1) := by decide +kernel
theorem dX3_mixInto_6 : decode cX3_mixInto 6 = .ok (.invokestatic 90, 3) := by decide +kernel
theorem dX3_mixInto_9 : decode cX3_mixInto 9 = .ok (.lstore_n 3, 1) := by decide +kernel
theorem dX3_mixInto_10 : decode cX3_mixInto 10 = .ok (.iconst 0, 1) := by decide +kernel
theorem dX3_mixInto_11 : decode cX3_mixInto 11 = .ok (.istore 5, 2) := by decide +kernel
theorem dX3_mixInto_13 : decode cX3_mixInto 13 = .ok (.iload 5, 2) := by decide +kernel
theorem dX3_mixInto_15 : decode cX3_mixInto 15 = .ok (.aload_n 0, 1) := by decide +kernel
theorem dX3_mixInto_16 : decode cX3_mixInto 16 = .ok (.getfield 44, 3) := by decide +kernel
theorem dX3_mixInto_19 : decode cX3_mixInto 19 = .ok (.if_icmp .ge 99, 3) := by decide +kernel
theorem dX3_mixInto_22 : decode cX3_mixInto 22 = .ok (.lload_n 3, 1) := by decide +kernel
theorem dX3_mixInto_23 : decode cX3_mixInto 23 = .ok (.aload_n 0, 1) := by decide +kernel
theorem dX3_mixInto_24 : decode cX3_mixInto 24 = .ok (.getfield 14, 3) := by decide +kernel
theorem dX3_mixInto_27 : decode cX3_mixInto 27 = .ok (.iload 5, 2) := by decide +kernel
theorem dX3_mixInto_29 : decode cX3_mixInto 29 = .ok (.invokevirtual 81, 3) := by decide +kernel
theorem dX3_mixInto_32 : decode cX3_mixInto 32 = .ok (.i2l, 1) := by decide +kernel
theorem dX3_mixInto_33 : decode cX3_mixInto 33 = .ok (.invokestatic 90, 3) := by decide +kernel
theorem dX3_mixInto_36 : decode cX3_mixInto 36 = .ok (.lstore_n 3, 1) := by decide +kernel
theorem dX3_mixInto_37 : decode cX3_mixInto 37 = .ok (.lload_n 3, 1) := by decide +kernel
theorem dX3_mixInto_38 : decode cX3_mixInto 38 = .ok (.aload_n 0, 1) := by decide +kernel
theorem dX3_mixInto_39 : decode cX3_mixInto 39 = .ok (.getfield 20, 3) := by decide +kernel
theorem dX3_mixInto_42 : decode cX3_mixInto 42 = .ok (.iload 5, 2) := by decide +kernel
theorem dX3_mixInto_44 : decode cX3_mixInto 44 = .ok (.invokevirtual 81, 3) := by decide +kernel
theorem dX3_mixInto_47 : decode cX3_mixInto 47 = .ok (.i2l, 1) := by decide +kernel
theorem dX3_mixInto_48 : decode cX3_mixInto 48 = .ok (.invokestatic 90, 3) := by decide +kernel
theorem dX3_mixInto_51 : decode cX3_mixInto 51 = .ok (.lstore_n 3, 1) := by decide +kernel
theorem dX3_mixInto_52 : decode cX3_mixInto 52 = .ok (.lload_n 3, 1) := by decide +kernel
theorem dX3_mixInto_53 : decode cX3_mixInto 53 = .ok (.aload_n 0, 1) := by decide +kernel
theorem dX3_mixInto_54 : decode cX3_mixInto 54 = .ok (.getfield 23, 3) := by decide +kernel
theorem dX3_mixInto_57 : decode cX3_mixInto 57 = .ok (.iload 5, 2) := by decide +kernel
theorem dX3_mixInto_59 : decode cX3_mixInto 59 = .ok (.invokevirtual 81, 3) := by decide +kernel
theorem dX3_mixInto_62 : decode cX3_mixInto 62 = .ok (.i2l, 1) := by decide +kernel
theorem dX3_mixInto_63 : decode cX3_mixInto 63 = .ok (.invokestatic 90, 3) := by decide +kernel
theorem dX3_mixInto_66 : decode cX3_mixInto 66 = .ok (.lstore_n 3, 1) := by decide +kernel
theorem dX3_mixInto_67 : decode cX3_mixInto 67 = .ok (.lload_n 3, 1) := by decide +kernel
theorem dX3_mixInto_68 : decode cX3_mixInto 68 = .ok (.aload_n 0, 1) := by decide +kernel
theorem dX3_mixInto_69 : decode cX3_mixInto 69 = .ok (.getfield 26, 3) := by decide +kernel
theorem dX3_mixInto_72 : decode cX3_mixInto 72 = .ok (.iload 5, 2) := by decide +kernel
theorem dX3_mixInto_74 : decode cX3_mixInto 74 = .ok (.invokevirtual 81, 3) := by decide +kernel
theorem dX3_mixInto_77 : decode cX3_mixInto 77 = .ok (.i2l, 1) := by decide +kernel
theorem dX3_mixInto_78 : decode cX3_mixInto 78 = .ok (.invokestatic 90, 3) := by decide +kernel
theorem dX3_mixInto_81 : decode cX3_mixInto 81 = .ok (.lstore_n 3, 1) := by decide +kernel
theorem dX3_mixInto_82 : decode cX3_mixInto 82 = .ok (.lload_n 3, 1) := by decide +kernel
theorem dX3_mixInto_83 : decode cX3_mixInto 83 = .ok (.aload_n 0, 1) := by decide +kernel
theorem dX3_mixInto_84 : decode cX3_mixInto 84 = .ok (.getfield 32, 3) := by decide +kernel
theorem dX3_mixInto_87 : decode cX3_mixInto 87 = .ok (.iload 5, 2) := by decide +kernel
theorem dX3_mixInto_89 : decode cX3_mixInto 89 = .ok (.invokevirtual 81, 3) := by decide +kernel
theorem dX3_mixInto_92 : decode cX3_mixInto 92 = .ok (.i2l, 1) := by decide +kernel
theorem dX3_mixInto_93 : decode cX3_mixInto 93 = .ok (.invokestatic 90, 3) := by decide +kernel
theorem dX3_mixInto_96 : decode cX3_mixInto 96 = .ok (.lstore_n 3, 1) := by decide +kernel
theorem dX3_mixInto_97 : decode cX3_mixInto 97 = .ok (.lload_n 3, 1) := by decide +kernel
theorem dX3_mixInto_98 : decode cX3_mixInto 98 = .ok (.aload_n 0, 1) := by decide +kernel
theorem dX3_mixInto_99 : decode cX3_mixInto 99 = .ok (.getfield 35, 3) := by decide +kernel
theorem dX3_mixInto_102 : decode cX3_mixInto 102 = .ok (.iload 5, 2) := by decide +kernel
theorem dX3_mixInto_104 : decode cX3_mixInto 104 = .ok (.invokevirtual 81, 3) := by decide +kernel
theorem dX3_mixInto_107 : decode cX3_mixInto 107 = .ok (.i2l, 1) := by decide +kernel
theorem dX3_mixInto_108 : decode cX3_mixInto 108 = .ok (.invokestatic 90, 3) := by decide +kernel
theorem dX3_mixInto_111 : decode cX3_mixInto 111 = .ok (.lstore_n 3, 1) := by decide +kernel
theorem dX3_mixInto_112 : decode cX3_mixInto 112 = .ok (.iinc 5 1, 3) := by decide +kernel
theorem dX3_mixInto_115 : decode cX3_mixInto 115 = .ok (.goto (-102), 3) := by decide +kernel
theorem dX3_mixInto_118 : decode cX3_mixInto 118 = .ok (.lload_n 3, 1) := by decide +kernel
theorem dX3_mixInto_119 : decode cX3_mixInto 119 = .ok (.aload_n 0, 1) := by decide +kernel
theorem dX3_mixInto_120 : decode cX3_mixInto 120 = .ok (.getfield 51, 3) := by decide +kernel
theorem dX3_mixInto_123 : decode cX3_mixInto 123 = .ok (.i2l, 1) := by decide +kernel
theorem dX3_mixInto_124 : decode cX3_mixInto 124 = .ok (.invokestatic 90, 3) := by decide +kernel
theorem dX3_mixInto_127 : decode cX3_mixInto 127 = .ok (.aload_n 0, 1) := by decide +kernel
theorem dX3_mixInto_128 : decode cX3_mixInto 128 = .ok (.getfield 57, 3) := by decide +kernel
theorem dX3_mixInto_131 : decode cX3_mixInto 131 = .ok (.i2l, 1) := by decide +kernel
theorem dX3_mixInto_132 : decode cX3_mixInto 132 = .ok (.invokestatic 90, 3) := by decide +kernel
theorem dX3_mixInto_135 : decode cX3_mixInto 135 = .ok (.lreturn, 1) := by decide +kernel
theorem dX3_clear_0 : decode cX3_clear 0 = .ok (.aload_n 0, 1) := by decide +kernel
theorem dX3_clear_1 : decode cX3_clear 1 = .ok (.getfield 38, 3) := by decide +kernel
theorem dX3_clear_4 : decode cX3_clear 4 = .ok (.iconst (-1), 1) := by decide +kernel
theorem dX3_clear_5 : decode cX3_clear 5 = .ok (.invokevirtual 94, 3) := by decide +kernel
theorem dX3_clear_8 : decode cX3_clear 8 = .ok (.aload_n 0, 1) := by decide +kernel
theorem dX3_clear_9 : decode cX3_clear 9 = .ok (.iconst 0, 1) := by decide +kernel
theorem dX3_clear_10 : decode cX3_clear 10 = .ok (.putfield 44, 3) := by decide +kernel
theorem dX3_clear_13 : decode cX3_clear 13 = .ok (.aload_n 0, 1) := by decide +kernel
theorem dX3_clear_14 : decode cX3_clear 14 = .ok (.iconst 0, 1) := by decide +kernel
theorem dX3_clear_15 : decode cX3_clear 15 = .ok (.putfield 48, 3) := by decide +kernel
theorem dX3_clear_18 : decode cX3_clear 18 = .ok (.aload_n 0, 1) := by decide +kernel
theorem dX3_clear_19 : decode cX3_clear 19 = .ok (.iconst 0, 1) := by decide +kernel
theorem dX3_clear_20 : decode cX3_clear 20 = .ok (.putfield 51, 3) := by decide +kernel
theorem dX3_clear_23 : decode cX3_clear 23 = .ok (.aload_n 0, 1) := by decide +kernel
theorem dX3_clear_24 : decode cX3_clear 24 = .ok (.iconst 0, 1) := by decide +kernel
theorem dX3_clear_25 : decode cX3_clear 25 = .ok (.putfield 54, 3) := by decide +kernel
theorem dX3_clear_28 : decode cX3_clear 28 = .ok (.aload_n 0, 1) := by decide +kernel
theorem dX3_clear_29 : decode cX3_clear 29 = .ok (.iconst 0, 1) := by decide +kernel
theorem dX3_clear_30 : decode cX3_clear 30 = .ok (.putfield 57, 3) := by decide +kernel
theorem dX3_clear_33 : decode cX3_clear 33 = .ok (.return_, 1) := by decide +kernel
theorem dX3_takeTopLevel_0 : decode cX3_takeTopLevel 0 = .ok (.aload_n 0, 1) := by decide +kernel
theorem dX3_takeTopLevel_1 : decode cX3_takeTopLevel 1 = .ok (.getfield 64, 3) := by decide +kernel
theorem dX3_takeTopLevel_4 : decode cX3_takeTopLevel 4 = .ok (.iload_n 1, 1) := by decide +kernel
theorem dX3_takeTopLevel_5 : decode cX3_takeTopLevel 5 = .ok (.invokevirtual 97, 3) := by decide +kernel
theorem dX3_takeTopLevel_8 : decode cX3_takeTopLevel 8 = .ok (.istore_n 2, 1) := by decide +kernel
theorem dX3_takeTopLevel_9 : decode cX3_takeTopLevel 9 = .ok (.iload_n 2, 1) := by decide +kernel
theorem dX3_takeTopLevel_10 : decode cX3_takeTopLevel 10 = .ok (.iconst (-1), 1) := by decide +kernel
theorem dX3_takeTopLevel_11 : decode cX3_takeTopLevel 11 = .ok (.if_icmp .ne 42, 3) := by decide +kernel
theorem dX3_takeTopLevel_14 : decode cX3_takeTopLevel 14 = .ok (.aload_n 0, 1) := by decide +kernel
theorem dX3_takeTopLevel_15 : decode cX3_takeTopLevel 15 = .ok (.dup, 1) := by decide +kernel
theorem dX3_takeTopLevel_16 : decode cX3_takeTopLevel 16 = .ok (.getfield 51, 3) := by decide +kernel
theorem dX3_takeTopLevel_19 : decode cX3_takeTopLevel 19 = .ok (.iconst 1, 1) := by decide +kernel
theorem dX3_takeTopLevel_20 : decode cX3_takeTopLevel 20 = .ok (.iadd, 1) := by decide +kernel
theorem dX3_takeTopLevel_21 : decode cX3_takeTopLevel 21 = .ok (.putfield 51, 3) := by decide +kernel
theorem dX3_takeTopLevel_24 : decode cX3_takeTopLevel 24 = .ok (.aload_n 0, 1) := by decide +kernel
theorem dX3_takeTopLevel_25 : decode cX3_takeTopLevel 25 = .ok (.dup, 1) := by decide +kernel
theorem dX3_takeTopLevel_26 : decode cX3_takeTopLevel 26 = .ok (.getfield 54, 3) := by decide +kernel
theorem dX3_takeTopLevel_29 : decode cX3_takeTopLevel 29 = .ok (.iconst 1, 1) := by decide +kernel
theorem dX3_takeTopLevel_30 : decode cX3_takeTopLevel 30 = .ok (.iadd, 1) := by decide +kernel
theorem dX3_takeTopLevel_31 : decode cX3_takeTopLevel 31 = .ok (.putfield 54, 3) := by decide +kernel
theorem dX3_takeTopLevel_34 : decode cX3_takeTopLevel 34 = .ok (.aload_n 0, 1) := by decide +kernel
theorem dX3_takeTopLevel_35 : decode cX3_takeTopLevel 35 = .ok (.aload_n 0, 1) := by decide +kernel
theorem dX3_takeTopLevel_36 : decode cX3_takeTopLevel 36 = .ok (.getfield 57, 3) := by decide +kernel
theorem dX3_takeTopLevel_39 : decode cX3_takeTopLevel 39 = .ok (.aload_n 0, 1) := by decide +kernel
theorem dX3_takeTopLevel_40 : decode cX3_takeTopLevel 40 = .ok (.getfield 54, 3) := by decide +kernel
theorem dX3_takeTopLevel_43 : decode cX3_takeTopLevel 43 = .ok (.invokestatic 102, 3) := by decide +kernel
theorem dX3_takeTopLevel_46 : decode cX3_takeTopLevel 46 = .ok (.putfield 57, 3) := by decide +kernel
theorem dX3_takeTopLevel_49 : decode cX3_takeTopLevel 49 = .ok (.iload_n 1, 1) := by decide +kernel
theorem dX3_takeTopLevel_50 : decode cX3_takeTopLevel 50 = .ok (.iconst 1, 1) := by decide +kernel
theorem dX3_takeTopLevel_51 : decode cX3_takeTopLevel 51 = .ok (.iadd, 1) := by decide +kernel
theorem dX3_takeTopLevel_52 : decode cX3_takeTopLevel 52 = .ok (.ireturn, 1) := by decide +kernel
theorem dX3_takeTopLevel_53 : decode cX3_takeTopLevel 53 = .ok (.aload_n 0, 1) := by decide +kernel
theorem dX3_takeTopLevel_54 : decode cX3_takeTopLevel 54 = .ok (.iconst 0, 1) := by decide +kernel
theorem dX3_takeTopLevel_55 : decode cX3_takeTopLevel 55 = .ok (.putfield 54, 3) := by decide +kernel
theorem dX3_takeTopLevel_58 : decode cX3_takeTopLevel 58 = .ok (.aload_n 0, 1) := by decide +kernel
theorem dX3_takeTopLevel_59 : decode cX3_takeTopLevel 59 = .ok (.dup, 1) := by decide +kernel
theorem dX3_takeTopLevel_60 : decode cX3_takeTopLevel 60 = .ok (.getfield 48, 3) := by decide +kernel
theorem dX3_takeTopLevel_63 : decode cX3_takeTopLevel 63 = .ok (.iconst 1, 1) := by decide +kernel
theorem dX3_takeTopLevel_64 : decode cX3_takeTopLevel 64 = .ok (.iadd, 1) := by decide +kernel
theorem dX3_takeTopLevel_65 : decode cX3_takeTopLevel 65 = .ok (.putfield 48, 3) := by decide +kernel
theorem dX3_takeTopLevel_68 : decode cX3_takeTopLevel 68 = .ok (.aload_n 0, 1) := by decide +kernel
theorem dX3_takeTopLevel_69 : decode cX3_takeTopLevel 69 = .ok (.iload_n 1, 1) := by decide +kernel
theorem dX3_takeTopLevel_70 : decode cX3_takeTopLevel 70 = .ok (.iload_n 2, 1) := by decide +kernel
theorem dX3_takeTopLevel_71 : decode cX3_takeTopLevel 71 = .ok (.iconst (-1), 1) := by decide +kernel
theorem dX3_takeTopLevel_72 : decode cX3_takeTopLevel 72 = .ok (.invokevirtual 108, 3) := by decide +kernel
theorem dX3_takeTopLevel_75 : decode cX3_takeTopLevel 75 = .ok (.aload_n 0, 1) := by decide +kernel
theorem dX3_takeTopLevel_76 : decode cX3_takeTopLevel 76 = .ok (.getfield 64, 3) := by decide +kernel
theorem dX3_takeTopLevel_79 : decode cX3_takeTopLevel 79 = .ok (.iload_n 2, 1) := by decide +kernel
theorem dX3_takeTopLevel_80 : decode cX3_takeTopLevel 80 = .ok (.iload_n 1, 1) := by decide +kernel
theorem dX3_takeTopLevel_81 : decode cX3_takeTopLevel 81 = .ok (.invokevirtual 112, 3) := by decide +kernel
theorem dX3_takeTopLevel_84 : decode cX3_takeTopLevel 84 = .ok (.ireturn, 1) := by decide +kernel
theorem dX3_announce_0 : decode cX3_announce 0 = .ok (.aload_n 0, 1) := by decide +kernel
theorem dX3_announce_1 : decode cX3_announce 1 = .ok (.getfield 38, 3) := by decide +kernel
theorem dX3_announce_4 : decode cX3_announce 4 = .ok (.iload_n 1, 1) := by decide +kernel
theorem dX3_announce_5 : decode cX3_announce 5 = .ok (.iload_n 2, 1) := by decide +kernel
theorem dX3_announce_6 : decode cX3_announce 6 = .ok (.invokevirtual 115, 3) := by decide +kernel
theorem dX3_announce_9 : decode cX3_announce 9 = .ok (.aload_n 0, 1) := by decide +kernel
theorem dX3_announce_10 : decode cX3_announce 10 = .ok (.getfield 41, 3) := by decide +kernel
theorem dX3_announce_13 : decode cX3_announce 13 = .ok (.iload_n 1, 1) := by decide +kernel
theorem dX3_announce_14 : decode cX3_announce 14 = .ok (.iload_n 3, 1) := by decide +kernel
theorem dX3_announce_15 : decode cX3_announce 15 = .ok (.invokevirtual 115, 3) := by decide +kernel
theorem dX3_announce_18 : decode cX3_announce 18 = .ok (.return_, 1) := by decide +kernel
theorem dX3_addNode_0 : decode cX3_addNode 0 = .ok (.aload_n 0, 1) := by decide +kernel
theorem dX3_addNode_1 : decode cX3_addNode 1 = .ok (.getfield 38, 3) := by decide +kernel
theorem dX3_addNode_4 : decode cX3_addNode 4 = .ok (.iload_n 1, 1) := by decide +kernel
theorem dX3_addNode_5 : decode cX3_addNode 5 = .ok (.invokevirtual 81, 3) := by decide +kernel
theorem dX3_addNode_8 : decode cX3_addNode 8 = .ok (.istore_n 2, 1) := by decide +kernel
theorem dX3_addNode_9 : decode cX3_addNode 9 = .ok (.aload_n 0, 1) := by decide +kernel
theorem dX3_addNode_10 : decode cX3_addNode 10 = .ok (.getfield 41, 3) := by decide +kernel
theorem dX3_addNode_13 : decode cX3_addNode 13 = .ok (.iload_n 1, 1) := by decide +kernel
theorem dX3_addNode_14 : decode cX3_addNode 14 = .ok (.invokevirtual 81, 3) := by decide +kernel
theorem dX3_addNode_17 : decode cX3_addNode 17 = .ok (.istore_n 3, 1) := by decide +kernel
theorem dX3_addNode_18 : decode cX3_addNode 18 = .ok (.aload_n 0, 1) := by decide +kernel
theorem dX3_addNode_19 : decode cX3_addNode 19 = .ok (.getfield 14, 3) := by decide +kernel
theorem dX3_addNode_22 : decode cX3_addNode 22 = .ok (.aload_n 0, 1) := by decide +kernel
theorem dX3_addNode_23 : decode cX3_addNode 23 = .ok (.getfield 44, 3) := by decide +kernel
theorem dX3_addNode_26 : decode cX3_addNode 26 = .ok (.iload_n 2, 1) := by decide +kernel
theorem dX3_addNode_27 : decode cX3_addNode 27 = .ok (.invokevirtual 115, 3) := by decide +kernel
theorem dX3_addNode_30 : decode cX3_addNode 30 = .ok (.aload_n 0, 1) := by decide +kernel
theorem dX3_addNode_31 : decode cX3_addNode 31 = .ok (.getfield 20, 3) := by decide +kernel
theorem dX3_addNode_34 : decode cX3_addNode 34 = .ok (.aload_n 0, 1) := by decide +kernel
theorem dX3_addNode_35 : decode cX3_addNode 35 = .ok (.getfield 44, 3) := by decide +kernel
theorem dX3_addNode_38 : decode cX3_addNode 38 = .ok (.iload_n 1, 1) := by decide +kernel
theorem dX3_addNode_39 : decode cX3_addNode 39 = .ok (.invokevirtual 115, 3) := by decide +kernel
theorem dX3_addNode_42 : decode cX3_addNode 42 = .ok (.aload_n 0, 1) := by decide +kernel
theorem dX3_addNode_43 : decode cX3_addNode 43 = .ok (.getfield 23, 3) := by decide +kernel
theorem dX3_addNode_46 : decode cX3_addNode 46 = .ok (.aload_n 0, 1) := by decide +kernel
theorem dX3_addNode_47 : decode cX3_addNode 47 = .ok (.getfield 44, 3) := by decide +kernel
theorem dX3_addNode_50 : decode cX3_addNode 50 = .ok (.aload_n 0, 1) := by decide +kernel
theorem dX3_addNode_51 : decode cX3_addNode 51 = .ok (.getfield 64, 3) := by decide +kernel
theorem dX3_addNode_54 : decode cX3_addNode 54 = .ok (.iload_n 2, 1) := by decide +kernel
theorem dX3_addNode_55 : decode cX3_addNode 55 = .ok (.iload_n 1, 1) := by decide +kernel
theorem dX3_addNode_56 : decode cX3_addNode 56 = .ok (.invokevirtual 112, 3) := by decide +kernel
theorem dX3_addNode_59 : decode cX3_addNode 59 = .ok (.invokevirtual 115, 3) := by decide +kernel
theorem dX3_addNode_62 : decode cX3_addNode 62 = .ok (.aload_n 0, 1) := by decide +kernel
theorem dX3_addNode_63 : decode cX3_addNode 63 = .ok (.getfield 26, 3) := by decide +kernel
theorem dX3_addNode_66 : decode cX3_addNode 66 = .ok (.aload_n 0, 1) := by decide +kernel
theorem dX3_addNode_67 : decode cX3_addNode 67 = .ok (.getfield 44, 3) := by decide +kernel
theorem dX3_addNode_70 : decode cX3_addNode 70 = .ok (.iload_n 3, 1) := by decide +kernel
theorem dX3_addNode_71 : decode cX3_addNode 71 = .ok (.invokevirtual 115, 3) := by decide +kernel
theorem dX3_addNode_74 : decode cX3_addNode 74 = .ok (.aload_n 0, 1) := by decide +kernel
theorem dX3_addNode_75 : decode cX3_addNode 75 = .ok (.getfield 29, 3) := by decide +kernel
theorem dX3_addNode_78 : decode cX3_addNode 78 = .ok (.aload_n 0, 1) := by decide +kernel
theorem dX3_addNode_79 : decode cX3_addNode 79 = .ok (.getfield 44, 3) := by decide +kernel
theorem dX3_addNode_82 : decode cX3_addNode 82 = .ok (.iload_n 3, 1) := by decide +kernel
theorem dX3_addNode_83 : decode cX3_addNode 83 = .ok (.iconst (-1), 1) := by decide +kernel
theorem dX3_addNode_84 : decode cX3_addNode 84 = .ok (.if_icmp .ne 7, 3) := by decide +kernel
theorem dX3_addNode_87 : decode cX3_addNode 87 = .ok (.iconst 0, 1) := by decide +kernel
theorem dX3_addNode_88 : decode cX3_addNode 88 = .ok (.goto 13, 3) := by decide +kernel
theorem dX3_addNode_91 : decode cX3_addNode 91 = .ok (.aload_n 0, 1) := by decide +kernel
theorem dX3_addNode_92 : decode cX3_addNode 92 = .ok (.getfield 29, 3) := by decide +kernel
theorem dX3_addNode_95 : decode cX3_addNode 95 = .ok (.iload_n 3, 1) := by decide +kernel
theorem dX3_addNode_96 : decode cX3_addNode 96 = .ok (.invokevirtual 81, 3) := by decide +kernel
theorem dX3_addNode_99 : decode cX3_addNode 99 = .ok (.iconst 1, 1) := by decide +kernel
theorem dX3_addNode_100 : decode cX3_addNode 100 = .ok (.iadd, 1) := by decide +kernel
theorem dX3_addNode_101 : decode cX3_addNode 101 = .ok (.invokevirtual 115, 3) := by decide +kernel
theorem dX3_addNode_104 : decode cX3_addNode 104 = .ok (.aload_n 0, 1) := by decide +kernel
theorem dX3_addNode_105 : decode cX3_addNode 105 = .ok (.getfield 32, 3) := by decide +kernel
theorem dX3_addNode_108 : decode cX3_addNode 108 = .ok (.aload_n 0, 1) := by decide +kernel
theorem dX3_addNode_109 : decode cX3_addNode 109 = .ok (.getfield 44, 3) := by decide +kernel
theorem dX3_addNode_112 : decode cX3_addNode 112 = .ok (.iconst 0, 1) := by decide +kernel
theorem dX3_addNode_113 : decode cX3_addNode 113 = .ok (.invokevirtual 115, 3) := by decide +kernel
theorem dX3_addNode_116 : decode cX3_addNode 116 = .ok (.aload_n 0, 1) := by decide +kernel
theorem dX3_addNode_117 : decode cX3_addNode 117 = .ok (.getfield 35, 3) := by decide +kernel
theorem dX3_addNode_120 : decode cX3_addNode 120 = .ok (.aload_n 0, 1) := by decide +kernel
theorem dX3_addNode_121 : decode cX3_addNode 121 = .ok (.getfield 44, 3) := by decide +kernel
theorem dX3_addNode_124 : decode cX3_addNode 124 = .ok (.iconst (-1), 1) := by decide +kernel
theorem dX3_addNode_125 : decode cX3_addNode 125 = .ok (.invokevirtual 115, 3) := by decide +kernel
theorem dX3_addNode_128 : decode cX3_addNode 128 = .ok (.aload_n 0, 1) := by decide +kernel
theorem dX3_addNode_129 : decode cX3_addNode 129 = .ok (.dup, 1) := by decide +kernel
theorem dX3_addNode_130 : decode cX3_addNode 130 = .ok (.getfield 44, 3) := by decide +kernel
theorem dX3_addNode_133 : decode cX3_addNode 133 = .ok (.iconst 1, 1) := by decide +kernel
theorem dX3_addNode_134 : decode cX3_addNode 134 = .ok (.iadd, 1) := by decide +kernel
theorem dX3_addNode_135 : decode cX3_addNode 135 = .ok (.putfield 44, 3) := by decide +kernel
theorem dX3_addNode_138 : decode cX3_addNode 138 = .ok (.return_, 1) := by decide +kernel
theorem dX3_walkPattern_0 : decode cX3_walkPattern 0 = .ok (.aload_n 0, 1) := by decide +kernel
theorem dX3_walkPattern_1 : decode cX3_walkPattern 1 = .ok (.getfield 14, 3) := by decide +kernel
theorem dX3_walkPattern_4 : decode cX3_walkPattern 4 = .ok (.iload_n 1, 1) := by decide +kernel
theorem dX3_walkPattern_5 : decode cX3_walkPattern 5 = .ok (.invokevirtual 81, 3) := by decide +kernel
theorem dX3_walkPattern_8 : decode cX3_walkPattern 8 = .ok (.istore_n 2, 1) := by decide +kernel
theorem dX3_walkPattern_9 : decode cX3_walkPattern 9 = .ok (.aload_n 0, 1) := by decide +kernel
theorem dX3_walkPattern_10 : decode cX3_walkPattern 10 = .ok (.getfield 60, 3) := by decide +kernel
theorem dX3_walkPattern_13 : decode cX3_walkPattern 13 = .ok (.iload_n 2, 1) := by decide +kernel
theorem dX3_walkPattern_14 : decode cX3_walkPattern 14 = .ok (.invokevirtual 119, 3) := by decide +kernel
theorem dX3_walkPattern_17 : decode cX3_walkPattern 17 = .ok (.istore_n 3, 1) := by decide +kernel
theorem dX3_walkPattern_18 : decode cX3_walkPattern 18 = .ok (.aload_n 0, 1) := by decide +kernel
theorem dX3_walkPattern_19 : decode cX3_walkPattern 19 = .ok (.getfield 20, 3) := by decide +kernel
theorem dX3_walkPattern_22 : decode cX3_walkPattern 22 = .ok (.iload_n 1, 1) := by decide +kernel
theorem dX3_walkPattern_23 : decode cX3_walkPattern 23 = .ok (.invokevirtual 81, 3) := by decide +kernel
theorem dX3_walkPattern_26 : decode cX3_walkPattern 26 = .ok (.istore 4, 2) := by decide +kernel
theorem dX3_walkPattern_28 : decode cX3_walkPattern 28 = .ok (.iconst 0, 1) := by decide +kernel
theorem dX3_walkPattern_29 : decode cX3_walkPattern 29 = .ok (.istore 5, 2) := by decide +kernel
theorem dX3_walkPattern_31 : decode cX3_walkPattern 31 = .ok (.iload 5, 2) := by decide +kernel
theorem dX3_walkPattern_33 : decode cX3_walkPattern 33 = .ok (.iload_n 3, 1) := by decide +kernel
theorem dX3_walkPattern_34 : decode cX3_walkPattern 34 = .ok (.if_icmp .ge 115, 3) := by decide +kernel
theorem dX3_walkPattern_37 : decode cX3_walkPattern 37 = .ok (.aload_n 0, 1) := by decide +kernel
theorem dX3_walkPattern_38 : decode cX3_walkPattern 38 = .ok (.getfield 60, 3) := by decide +kernel
theorem dX3_walkPattern_41 : decode cX3_walkPattern 41 = .ok (.iload_n 2, 1) := by decide +kernel
theorem dX3_walkPattern_42 : decode cX3_walkPattern 42 = .ok (.iload 5, 2) := by decide +kernel
theorem dX3_walkPattern_44 : decode cX3_walkPattern 44 = .ok (.invokevirtual 122, 3) := by decide +kernel
theorem dX3_walkPattern_47 : decode cX3_walkPattern 47 = .ok (.istore 6, 2) := by decide +kernel
theorem dX3_walkPattern_49 : decode cX3_walkPattern 49 = .ok (.iload 4, 2) := by decide +kernel
theorem dX3_walkPattern_51 : decode cX3_walkPattern 51 = .ok (.istore 7, 2) := by decide +kernel
theorem dX3_walkPattern_53 : decode cX3_walkPattern 53 = .ok (.iload 6, 2) := by decide +kernel
theorem dX3_walkPattern_55 : decode cX3_walkPattern 55 = .ok (.bipush 126, 2) := by decide +kernel
theorem dX3_walkPattern_57 : decode cX3_walkPattern 57 = .ok (.if_icmp .ne 15, 3) := by decide +kernel
theorem dX3_walkPattern_60 : decode cX3_walkPattern 60 = .ok (.aload_n 0, 1) := by decide +kernel
theorem dX3_walkPattern_61 : decode cX3_walkPattern 61 = .ok (.iload_n 1, 1) := by decide +kernel
theorem dX3_walkPattern_62 : decode cX3_walkPattern 62 = .ok (.iload 5, 2) := by decide +kernel
theorem dX3_walkPattern_64 : decode cX3_walkPattern 64 = .ok (.iload 7, 2) := by decide +kernel
theorem dX3_walkPattern_66 : decode cX3_walkPattern 66 = .ok (.invokevirtual 125, 3) := by decide +kernel
theorem dX3_walkPattern_69 : decode cX3_walkPattern 69 = .ok (.goto 14, 3) := by decide +kernel
theorem dX3_walkPattern_72 : decode cX3_walkPattern 72 = .ok (.aload_n 0, 1) := by decide +kernel
theorem dX3_walkPattern_73 : decode cX3_walkPattern 73 = .ok (.getfield 64, 3) := by decide +kernel
theorem dX3_walkPattern_76 : decode cX3_walkPattern 76 = .ok (.iload 6, 2) := by decide +kernel
theorem dX3_walkPattern_78 : decode cX3_walkPattern 78 = .ok (.iload 7, 2) := by decide +kernel
theorem dX3_walkPattern_80 : decode cX3_walkPattern 80 = .ok (.invokevirtual 129, 3) := by decide +kernel
theorem dX3_walkPattern_83 : decode cX3_walkPattern 83 = .ok (.istore 4, 2) := by decide +kernel
theorem dX3_walkPattern_85 : decode cX3_walkPattern 85 = .ok (.iload 6, 2) := by decide +kernel
theorem dX3_walkPattern_87 : decode cX3_walkPattern 87 = .ok (.invokestatic 132, 3) := by decide +kernel
theorem dX3_walkPattern_90 : decode cX3_walkPattern 90 = .ok (.ifCond .eq 15, 3) := by decide +kernel
theorem dX3_walkPattern_93 : decode cX3_walkPattern 93 = .ok (.aload_n 0, 1) := by decide +kernel
theorem dX3_walkPattern_94 : decode cX3_walkPattern 94 = .ok (.iload 7, 2) := by decide +kernel
theorem dX3_walkPattern_96 : decode cX3_walkPattern 96 = .ok (.iload 6, 2) := by decide +kernel
theorem dX3_walkPattern_98 : decode cX3_walkPattern 98 = .ok (.bipush 65, 2) := by decide +kernel
theorem dX3_walkPattern_100 : decode cX3_walkPattern 100 = .ok (.isub, 1) := by decide +kernel
theorem dX3_walkPattern_101 : decode cX3_walkPattern 101 = .ok (.iload_n 1, 1) := by decide +kernel
theorem dX3_walkPattern_102 : decode cX3_walkPattern 102 = .ok (.invokevirtual 108, 3) := by decide +kernel
theorem dX3_walkPattern_105 : decode cX3_walkPattern 105 = .ok (.iload 6, 2) := by decide +kernel
theorem dX3_walkPattern_107 : decode cX3_walkPattern 107 = .ok (.bipush 35, 2) := by decide +kernel
theorem dX3_walkPattern_109 : decode cX3_walkPattern 109 = .ok (.if_icmp .ne 34, 3) := by decide +kernel
theorem dX3_walkPattern_112 : decode cX3_walkPattern 112 = .ok (.aload_n 0, 1) := by decide +kernel
theorem dX3_walkPattern_113 : decode cX3_walkPattern 113 = .ok (.getfield 35, 3) := by decide +kernel
theorem dX3_walkPattern_116 : decode cX3_walkPattern 116 = .ok (.iload_n 1, 1) := by decide +kernel
theorem dX3_walkPattern_117 : decode cX3_walkPattern 117 = .ok (.invokevirtual 81, 3) := by decide +kernel
theorem dX3_walkPattern_120 : decode cX3_walkPattern 120 = .ok (.iconst (-1), 1) := by decide +kernel
theorem dX3_walkPattern_121 : decode cX3_walkPattern 121 = .ok (.if_icmp .ne 22, 3) := by decide +kernel
theorem dX3_walkPattern_124 : decode cX3_walkPattern 124 = .ok (.aload_n 0, 1) := by decide +kernel
theorem dX3_walkPattern_125 : decode cX3_walkPattern 125 = .ok (.getfield 35, 3) := by decide +kernel
theorem dX3_walkPattern_128 : decode cX3_walkPattern 128 = .ok (.iload_n 1, 1) := by decide +kernel
theorem dX3_walkPattern_129 : decode cX3_walkPattern 129 = .ok (.aload_n 0, 1) := by decide +kernel
theorem dX3_walkPattern_130 : decode cX3_walkPattern 130 = .ok (.getfield 60, 3) := by decide +kernel
theorem dX3_walkPattern_133 : decode cX3_walkPattern 133 = .ok (.iload 7, 2) := by decide +kernel
theorem dX3_walkPattern_135 : decode cX3_walkPattern 135 = .ok (.iload 4, 2) := by decide +kernel
theorem dX3_walkPattern_137 : decode cX3_walkPattern 137 = .ok (.invokevirtual 136, 3) := by decide +kernel
theorem dX3_walkPattern_140 : decode cX3_walkPattern 140 = .ok (.invokevirtual 115, 3) := by decide +kernel
theorem dX3_walkPattern_143 : decode cX3_walkPattern 143 = .ok (.iinc 5 1, 3) := by decide +kernel
theorem dX3_walkPattern_146 : decode cX3_walkPattern 146 = .ok (.goto (-115), 3) := by decide +kernel
theorem dX3_walkPattern_149 : decode cX3_walkPattern 149 = .ok (.return_, 1) := by decide +kernel
theorem dX3_walkWater_0 : decode cX3_walkWater 0 = .ok (.aload_n 0, 1) := by decide +kernel
theorem dX3_walkWater_1 : decode cX3_walkWater 1 = .ok (.getfield 14, 3) := by decide +kernel
theorem dX3_walkWater_4 : decode cX3_walkWater 4 = .ok (.iload_n 1, 1) := by decide +kernel
theorem dX3_walkWater_5 : decode cX3_walkWater 5 = .ok (.invokevirtual 81, 3) := by decide +kernel
theorem dX3_walkWater_8 : decode cX3_walkWater 8 = .ok (.istore 4, 2) := by decide +kernel
theorem dX3_walkWater_10 : decode cX3_walkWater 10 = .ok (.iload_n 3, 1) := by decide +kernel
theorem dX3_walkWater_11 : decode cX3_walkWater 11 = .ok (.istore 5, 2) := by decide +kernel
theorem dX3_walkWater_13 : decode cX3_walkWater 13 = .ok (.iconst 0, 1) := by decide +kernel
theorem dX3_walkWater_14 : decode cX3_walkWater 14 = .ok (.istore 6, 2) := by decide +kernel
theorem dX3_walkWater_16 : decode cX3_walkWater 16 = .ok (.iload 6, 2) := by decide +kernel
theorem dX3_walkWater_18 : decode cX3_walkWater 18 = .ok (.bipush 100, 2) := by decide +kernel
theorem dX3_walkWater_20 : decode cX3_walkWater 20 = .ok (.if_icmp .ge 92, 3) := by decide +kernel
theorem dX3_walkWater_23 : decode cX3_walkWater 23 = .ok (.aload_n 0, 1) := by decide +kernel
theorem dX3_walkWater_24 : decode cX3_walkWater 24 = .ok (.getfield 64, 3) := by decide +kernel
theorem dX3_walkWater_27 : decode cX3_walkWater 27 = .ok (.iload 4, 2) := by decide +kernel
theorem dX3_walkWater_29 : decode cX3_walkWater 29 = .ok (.iload_n 2, 1) := by decide +kernel
theorem dX3_walkWater_30 : decode cX3_walkWater 30 = .ok (.iconst 1, 1) := by decide +kernel
theorem dX3_walkWater_31 : decode cX3_walkWater 31 = .ok (.iadd, 1) := by decide +kernel
theorem dX3_walkWater_32 : decode cX3_walkWater 32 = .ok (.iload 5, 2) := by decide +kernel
theorem dX3_walkWater_34 : decode cX3_walkWater 34 = .ok (.invokevirtual 139, 3) := by decide +kernel
theorem dX3_walkWater_37 : decode cX3_walkWater 37 = .ok (.ifCond .eq 6, 3) := by decide +kernel
theorem dX3_walkWater_40 : decode cX3_walkWater 40 = .ok (.goto 72, 3) := by decide +kernel
theorem dX3_walkWater_43 : decode cX3_walkWater 43 = .ok (.aload_n 0, 1) := by decide +kernel
theorem dX3_walkWater_44 : decode cX3_walkWater 44 = .ok (.getfield 64, 3) := by decide +kernel
theorem dX3_walkWater_47 : decode cX3_walkWater 47 = .ok (.iload 5, 2) := by decide +kernel
theorem dX3_walkWater_49 : decode cX3_walkWater 49 = .ok (.invokevirtual 97, 3) := by decide +kernel
theorem dX3_walkWater_52 : decode cX3_walkWater 52 = .ok (.istore 7, 2) := by decide +kernel
theorem dX3_walkWater_54 : decode cX3_walkWater 54 = .ok (.iload 7, 2) := by decide +kernel
theorem dX3_walkWater_56 : decode cX3_walkWater 56 = .ok (.iconst (-1), 1) := by decide +kernel
theorem dX3_walkWater_57 : decode cX3_walkWater 57 = .ok (.if_icmp .ne 27, 3) := by decide +kernel
theorem dX3_walkWater_60 : decode cX3_walkWater 60 = .ok (.aload_n 0, 1) := by decide +kernel
theorem dX3_walkWater_61 : decode cX3_walkWater 61 = .ok (.getfield 32, 3) := by decide +kernel
theorem dX3_walkWater_64 : decode cX3_walkWater 64 = .ok (.iload_n 1, 1) := by decide +kernel
theorem dX3_walkWater_65 : decode cX3_walkWater 65 = .ok (.aload_n 0, 1) := by decide +kernel
theorem dX3_walkWater_66 : decode cX3_walkWater 66 = .ok (.getfield 32, 3) := by decide +kernel
theorem dX3_walkWater_69 : decode cX3_walkWater 69 = .ok (.iload_n 1, 1) := by decide +kernel
theorem dX3_walkWater_70 : decode cX3_walkWater 70 = .ok (.invokevirtual 81, 3) := by decide +kernel
theorem dX3_walkWater_73 : decode cX3_walkWater 73 = .ok (.iconst 1, 1) := by decide +kernel
theorem dX3_walkWater_74 : decode cX3_walkWater 74 = .ok (.iadd, 1) := by decide +kernel
theorem dX3_walkWater_75 : decode cX3_walkWater 75 = .ok (.invokevirtual 115, 3) := by decide +kernel
theorem dX3_walkWater_78 : decode cX3_walkWater 78 = .ok (.iinc 5 1, 3) := by decide +kernel
theorem dX3_walkWater_81 : decode cX3_walkWater 81 = .ok (.goto 25, 3) := by decide +kernel
theorem dX3_walkWater_84 : decode cX3_walkWater 84 = .ok (.aload_n 0, 1) := by decide +kernel
theorem dX3_walkWater_85 : decode cX3_walkWater 85 = .ok (.iload 5, 2) := by decide +kernel
theorem dX3_walkWater_87 : decode cX3_walkWater 87 = .ok (.iload 7, 2) := by decide +kernel
theorem dX3_walkWater_89 : decode cX3_walkWater 89 = .ok (.iload_n 1, 1) := by decide +kernel
theorem dX3_walkWater_90 : decode cX3_walkWater 90 = .ok (.invokevirtual 108, 3) := by decide +kernel
theorem dX3_walkWater_93 : decode cX3_walkWater 93 = .ok (.aload_n 0, 1) := by decide +kernel
theorem dX3_walkWater_94 : decode cX3_walkWater 94 = .ok (.getfield 64, 3) := by decide +kernel
theorem dX3_walkWater_97 : decode cX3_walkWater 97 = .ok (.iload 7, 2) := by decide +kernel
theorem dX3_walkWater_99 : decode cX3_walkWater 99 = .ok (.iload 5, 2) := by decide +kernel
theorem dX3_walkWater_101 : decode cX3_walkWater 101 = .ok (.invokevirtual 112, 3) := by decide +kernel
theorem dX3_walkWater_104 : decode cX3_walkWater 104 = .ok (.istore 5, 2) := by decide +kernel
theorem dX3_walkWater_106 : decode cX3_walkWater 106 = .ok (.iinc 6 1, 3) := by decide +kernel
theorem dX3_walkWater_109 : decode cX3_walkWater 109 = .ok (.goto (-93), 3) := by decide +kernel
theorem dX3_walkWater_112 : decode cX3_walkWater 112 = .ok (.iload 5, 2) := by decide +kernel
theorem dX3_walkWater_114 : decode cX3_walkWater 114 = .ok (.ireturn, 1) := by decide +kernel
theorem dX4_init_0 : decode cX4_init 0 = .ok (.aload_n 0, 1) := by decide +kernel
theorem dX4_init_1 : decode cX4_init 1 = .ok (.invokespecial 3, 3) := by decide +kernel
theorem dX4_init_4 : decode cX4_init 4 = .ok (.aload_n 0, 1) := by decide +kernel
theorem dX4_init_5 : decode cX4_init 5 = .ok (.iload_n 1, 1) := by decide +kernel
theorem dX4_init_6 : decode cX4_init 6 = .ok (.ifCond .le 7, 3) := by decide +kernel
theorem dX4_init_9 : decode cX4_init 9 = .ok (.iload_n 1, 1) := by decide +kernel
theorem dX4_init_10 : decode cX4_init 10 = .ok (.goto 4, 3) := by decide +kernel
theorem dX4_init_13 : decode cX4_init 13 = .ok (.iconst 0, 1) := by decide +kernel
theorem dX4_init_14 : decode cX4_init 14 = .ok (.newarray .int, 2) := by decide +kernel
theorem dX4_init_16 : decode cX4_init 16 = .ok (.putfield 9, 3) := by decide +kernel
theorem dX4_init_19 : decode cX4_init 19 = .ok (.return_, 1) := by decide +kernel
theorem dX4_get_0 : decode cX4_get 0 = .ok (.iload_n 1, 1) := by decide +kernel
theorem dX4_get_1 : decode cX4_get 1 = .ok (.ifCond .lt 21, 3) := by decide +kernel
theorem dX4_get_4 : decode cX4_get 4 = .ok (.iload_n 1, 1) := by decide +kernel
theorem dX4_get_5 : decode cX4_get 5 = .ok (.aload_n 0, 1) := by decide +kernel
theorem dX4_get_6 : decode cX4_get 6 = .ok (.getfield 9, 3) := by decide +kernel
theorem dX4_get_9 : decode cX4_get 9 = .ok (.arraylength, 1) := by decide +kernel
theorem dX4_get_10 : decode cX4_get 10 = .ok (.if_icmp .ge 12, 3) := by decide +kernel
theorem dX4_get_13 : decode cX4_get 13 = .ok (.aload_n 0, 1) := by decide +kernel
theorem dX4_get_14 : decode cX4_get 14 = .ok (.getfield 9, 3) := by decide +kernel
theorem dX4_get_17 : decode cX4_get 17 = .ok (.iload_n 1, 1) := by decide +kernel
theorem dX4_get_18 : decode cX4_get 18 = .ok (.iaload, 1) := by decide +kernel
theorem dX4_get_19 : decode cX4_get 19 = .ok (.goto 4, 3) := by decide +kernel
theorem dX4_get_22 : decode cX4_get 22 = .ok (.iconst (-1), 1) := by decide +kernel
theorem dX4_get_23 : decode cX4_get 23 = .ok (.ireturn, 1) := by decide +kernel
theorem dX4_set_0 : decode cX4_set 0 = .ok (.iload_n 1, 1) := by decide +kernel
theorem dX4_set_1 : decode cX4_set 1 = .ok (.ifCond .lt 19, 3) := by decide +kernel
theorem dX4_set_4 : decode cX4_set 4 = .ok (.iload_n 1, 1) := by decide +kernel
theorem dX4_set_5 : decode cX4_set 5 = .ok (.aload_n 0, 1) := by decide +kernel
theorem dX4_set_6 : decode cX4_set 6 = .ok (.getfield 9, 3) := by decide +kernel
theorem dX4_set_9 : decode cX4_set 9 = .ok (.arraylength, 1) := by decide +kernel
theorem dX4_set_10 : decode cX4_set 10 = .ok (.if_icmp .ge 10, 3) := by decide +kernel
theorem dX4_set_13 : decode cX4_set 13 = .ok (.aload_n 0, 1) := by decide +kernel
theorem dX4_set_14 : decode cX4_set 14 = .ok (.getfield 9, 3) := by decide +kernel
theorem dX4_set_17 : decode cX4_set 17 = .ok (.iload_n 1, 1) := by decide +kernel
theorem dX4_set_18 : decode cX4_set 18 = .ok (.iload_n 2, 1) := by decide +kernel
theorem dX4_set_19 : decode cX4_set 19 = .ok (.iastore, 1) := by decide +kernel
theorem dX4_set_20 : decode cX4_set 20 = .ok (.return_, 1) := by decide +kernel
theorem dX4_fill_0 : decode cX4_fill 0 = .ok (.iconst 0, 1) := by decide +kernel
theorem dX4_fill_1 : decode cX4_fill 1 = .ok (.istore_n 2, 1) := by decide +kernel
theorem dX4_fill_2 : decode cX4_fill 2 = .ok (.iload_n 2, 1) := by decide +kernel
theorem dX4_fill_3 : decode cX4_fill 3 = .ok (.aload_n 0, 1) := by decide +kernel
theorem dX4_fill_4 : decode cX4_fill 4 = .ok (.getfield 9, 3) := by decide +kernel
theorem dX4_fill_7 : decode cX4_fill 7 = .ok (.arraylength, 1) := by decide +kernel
theorem dX4_fill_8 : decode cX4_fill 8 = .ok (.if_icmp .ge 16, 3) := by decide +kernel
theorem dX4_fill_11 : decode cX4_fill 11 = .ok (.aload_n 0, 1) := by decide +kernel
theorem dX4_fill_12 : decode cX4_fill 12 = .ok (.getfield 9, 3) := by decide +kernel
theorem dX4_fill_15 : decode cX4_fill 15 = .ok (.iload_n 2, 1) := by decide +kernel
theorem dX4_fill_16 : decode cX4_fill 16 = .ok (.iload_n 1, 1) := by decide +kernel
theorem dX4_fill_17 : decode cX4_fill 17 = .ok (.iastore, 1) := by decide +kernel
theorem dX4_fill_18 : decode cX4_fill 18 = .ok (.iinc 2 1, 3) := by decide +kernel
theorem dX4_fill_21 : decode cX4_fill 21 = .ok (.goto (-19), 3) := by decide +kernel
theorem dX4_fill_24 : decode cX4_fill 24 = .ok (.return_, 1) := by decide +kernel
theorem dX4_copyFrom_0 : decode cX4_copyFrom 0 = .ok (.aload_n 0, 1) := by decide +kernel
theorem dX4_copyFrom_1 : decode cX4_copyFrom 1 = .ok (.getfield 9, 3) := by decide +kernel
theorem dX4_copyFrom_4 : decode cX4_copyFrom 4 = .ok (.arraylength, 1) := by decide +kernel
theorem dX4_copyFrom_5 : decode cX4_copyFrom 5 = .ok (.aload_n 1, 1) := by decide +kernel
theorem dX4_copyFrom_6 : decode cX4_copyFrom 6 = .ok (.getfield 9, 3) := by decide +kernel
theorem dX4_copyFrom_9 : decode cX4_copyFrom 9 = .ok (.arraylength, 1) := by decide +kernel
theorem dX4_copyFrom_10 : decode cX4_copyFrom 10 = .ok (.invokestatic 15, 3) := by decide +kernel
theorem dX4_copyFrom_13 : decode cX4_copyFrom 13 = .ok (.istore_n 2, 1) := by decide +kernel
theorem dX4_copyFrom_14 : decode cX4_copyFrom 14 = .ok (.iconst 0, 1) := by decide +kernel
theorem dX4_copyFrom_15 : decode cX4_copyFrom 15 = .ok (.istore_n 3, 1) := by decide +kernel
theorem dX4_copyFrom_16 : decode cX4_copyFrom 16 = .ok (.iload_n 3, 1) := by decide +kernel
theorem dX4_copyFrom_17 : decode cX4_copyFrom 17 = .ok (.iload_n 2, 1) := by decide +kernel
theorem dX4_copyFrom_18 : decode cX4_copyFrom 18 = .ok (.if_icmp .ge 21, 3) := by decide +kernel
theorem dX4_copyFrom_21 : decode cX4_copyFrom 21 = .ok (.aload_n 0, 1) := by decide +kernel
theorem dX4_copyFrom_22 : decode cX4_copyFrom 22 = .ok (.getfield 9, 3) := by decide +kernel
theorem dX4_copyFrom_25 : decode cX4_copyFrom 25 = .ok (.iload_n 3, 1) := by decide +kernel
theorem dX4_copyFrom_26 : decode cX4_copyFrom 26 = .ok (.aload_n 1, 1) := by decide +kernel
theorem dX4_copyFrom_27 : decode cX4_copyFrom 27 = .ok (.getfield 9, 3) := by decide +kernel
theorem dX4_copyFrom_30 : decode cX4_copyFrom 30 = .ok (.iload_n 3, 1) := by decide +kernel
theorem dX4_copyFrom_31 : decode cX4_copyFrom 31 = .ok (.iaload, 1) := by decide +kernel
theorem dX4_copyFrom_32 : decode cX4_copyFrom 32 = .ok (.iastore, 1) := by decide +kernel
theorem dX4_copyFrom_33 : decode cX4_copyFrom 33 = .ok (.iinc 3 1, 3) := by decide +kernel
theorem dX4_copyFrom_36 : decode cX4_copyFrom 36 = .ok (.goto (-20), 3) := by decide +kernel
theorem dX4_copyFrom_39 : decode cX4_copyFrom 39 = .ok (.return_, 1) := by decide +kernel
theorem dX4_mixInto_0 : decode cX4_mixInto 0 = .ok (.lload_n 1, 1) := by decide +kernel
theorem dX4_mixInto_1 : decode cX4_mixInto 1 = .ok (.lstore 5, 2) := by decide +kernel
theorem dX4_mixInto_3 : decode cX4_mixInto 3 = .ok (.iconst 0, 1) := by decide +kernel
theorem dX4_mixInto_4 : decode cX4_mixInto 4 = .ok (.istore 7, 2) := by decide +kernel
theorem dX4_mixInto_6 : decode cX4_mixInto 6 = .ok (.iload 7, 2) := by decide +kernel
theorem dX4_mixInto_8 : decode cX4_mixInto 8 = .ok (.iload 4, 2) := by decide +kernel
theorem dX4_mixInto_10 : decode cX4_mixInto 10 = .ok (.if_icmp .ge 25, 3) := by decide +kernel
theorem dX4_mixInto_13 : decode cX4_mixInto 13 = .ok (.lload 5, 2) := by decide +kernel
theorem dX4_mixInto_15 : decode cX4_mixInto 15 = .ok (.aload_n 0, 1) := by decide +kernel
theorem dX4_mixInto_16 : decode cX4_mixInto 16 = .ok (.iload_n 3, 1) := by decide +kernel
theorem dX4_mixInto_17 : decode cX4_mixInto 17 = .ok (.iload 7, 2) := by decide +kernel
theorem dX4_mixInto_19 : decode cX4_mixInto 19 = .ok (.iadd, 1) := by decide +kernel
theorem dX4_mixInto_20 : decode cX4_mixInto 20 = .ok (.invokevirtual 21, 3) := by decide +kernel
theorem dX4_mixInto_23 : decode cX4_mixInto 23 = .ok (.i2l, 1) := by decide +kernel
theorem dX4_mixInto_24 : decode cX4_mixInto 24 = .ok (.invokestatic 25, 3) := by decide +kernel
theorem dX4_mixInto_27 : decode cX4_mixInto 27 = .ok (.lstore 5, 2) := by decide +kernel
theorem dX4_mixInto_29 : decode cX4_mixInto 29 = .ok (.iinc 7 1, 3) := by decide +kernel
theorem dX4_mixInto_32 : decode cX4_mixInto 32 = .ok (.goto (-26), 3) := by decide +kernel
theorem dX4_mixInto_35 : decode cX4_mixInto 35 = .ok (.lload 5, 2) := by decide +kernel
theorem dX4_mixInto_37 : decode cX4_mixInto 37 = .ok (.lreturn, 1) := by decide +kernel
theorem dX5_init_0 : decode cX5_init 0 = .ok (.aload_n 0, 1) := by decide +kernel
theorem dX5_init_1 : decode cX5_init 1 = .ok (.invokespecial 3, 3) := by decide +kernel
theorem dX5_init_4 : decode cX5_init 4 = .ok (.aload_n 0, 1) := by decide +kernel
theorem dX5_init_5 : decode cX5_init 5 = .ok (.new 9, 3) := by decide +kernel
theorem dX5_init_8 : decode cX5_init 8 = .ok (.dup, 1) := by decide +kernel
theorem dX5_init_9 : decode cX5_init 9 = .ok (.bipush 100, 2) := by decide +kernel
theorem dX5_init_11 : decode cX5_init 11 = .ok (.invokespecial 11, 3) := by decide +kernel
theorem dX5_init_14 : decode cX5_init 14 = .ok (.putfield 14, 3) := by decide +kernel
theorem dX5_init_17 : decode cX5_init 17 = .ok (.aload_n 0, 1) := by decide +kernel
theorem dX5_init_18 : decode cX5_init 18 = .ok (.new 9, 3) := by decide +kernel
theorem dX5_init_21 : decode cX5_init 21 = .ok (.dup, 1) := by decide +kernel
theorem dX5_init_22 : decode cX5_init 22 = .ok (.bipush 6, 2) := by decide +kernel
theorem dX5_init_24 : decode cX5_init 24 = .ok (.invokespecial 11, 3) := by decide +kernel
theorem dX5_init_27 : decode cX5_init 27 = .ok (.putfield 20, 3) := by decide +kernel
theorem dX5_init_30 : decode cX5_init 30 = .ok (.aload_n 0, 1) := by decide +kernel
theorem dX5_init_31 : decode cX5_init 31 = .ok (.new 9, 3) := by decide +kernel
theorem dX5_init_34 : decode cX5_init 34 = .ok (.dup, 1) := by decide +kernel
theorem dX5_init_35 : decode cX5_init 35 = .ok (.bipush 48, 2) := by decide +kernel
theorem dX5_init_37 : decode cX5_init 37 = .ok (.invokespecial 11, 3) := by decide +kernel
theorem dX5_init_40 : decode cX5_init 40 = .ok (.putfield 23, 3) := by decide +kernel
theorem dX5_init_43 : decode cX5_init 43 = .ok (.aload_n 0, 1) := by decide +kernel
theorem dX5_init_44 : decode cX5_init 44 = .ok (.new 9, 3) := by decide +kernel
theorem dX5_init_47 : decode cX5_init 47 = .ok (.dup, 1) := by decide +kernel
theorem dX5_init_48 : decode cX5_init 48 = .ok (.bipush 6, 2) := by decide +kernel
theorem dX5_init_50 : decode cX5_init 50 = .ok (.invokespecial 11, 3) := by decide +kernel
theorem dX5_init_53 : decode cX5_init 53 = .ok (.putfield 26, 3) := by decide +kernel
theorem dX5_init_56 : decode cX5_init 56 = .ok (.aload_n 0, 1) := by decide +kernel
theorem dX5_init_57 : decode cX5_init 57 = .ok (.iconst 0, 1) := by decide +kernel
theorem dX5_init_58 : decode cX5_init 58 = .ok (.putfield 29, 3) := by decide +kernel
theorem dX5_init_61 : decode cX5_init 61 = .ok (.aload_n 0, 1) := by decide +kernel
theorem dX5_init_62 : decode cX5_init 62 = .ok (.getfield 26, 3) := by decide +kernel
theorem dX5_init_65 : decode cX5_init 65 = .ok (.iconst (-1), 1) := by decide +kernel
theorem dX5_init_66 : decode cX5_init 66 = .ok (.invokevirtual 33, 3) := by decide +kernel
theorem dX5_init_69 : decode cX5_init 69 = .ok (.return_, 1) := by decide +kernel
theorem dX5_textSize_0 : decode cX5_textSize 0 = .ok (.aload_n 0, 1) := by decide +kernel
theorem dX5_textSize_1 : decode cX5_textSize 1 = .ok (.getfield 29, 3) := by decide +kernel
theorem dX5_textSize_4 : decode cX5_textSize 4 = .ok (.ireturn, 1) := by decide +kernel
theorem dX5_textAt_0 : decode cX5_textAt 0 = .ok (.iload_n 1, 1) := by decide +kernel
theorem dX5_textAt_1 : decode cX5_textAt 1 = .ok (.aload_n 0, 1) := by decide +kernel
theorem dX5_textAt_2 : decode cX5_textAt 2 = .ok (.getfield 29, 3) := by decide +kernel
theorem dX5_textAt_5 : decode cX5_textAt 5 = .ok (.if_icmp .ge 14, 3) := by decide +kernel
theorem dX5_textAt_8 : decode cX5_textAt 8 = .ok (.aload_n 0, 1) := by decide +kernel
theorem dX5_textAt_9 : decode cX5_textAt 9 = .ok (.getfield 14, 3) := by decide +kernel
theorem dX5_textAt_12 : decode cX5_textAt 12 = .ok (.iload_n 1, 1) := by decide +kernel
theorem dX5_textAt_13 : decode cX5_textAt 13 = .ok (.invokevirtual 36, 3) := by decide +kernel
theorem dX5_textAt_16 : decode cX5_textAt 16 = .ok (.goto 4, 3) := by decide +kernel
theorem dX5_textAt_19 : decode cX5_textAt 19 = .ok (.iconst (-1), 1) := by decide +kernel
theorem dX5_textAt_20 : decode cX5_textAt 20 = .ok (.ireturn, 1) := by decide +kernel
theorem dX5_insertByte_0 : decode cX5_insertByte 0 = .ok (.aload_n 0, 1) := by decide +kernel
theorem dX5_insertByte_1 : decode cX5_insertByte 1 = .ok (.getfield 29, 3) := by decide +kernel
theorem dX5_insertByte_4 : decode cX5_insertByte 4 = .ok (.istore_n 3, 1) := by decide +kernel
theorem dX5_insertByte_5 : decode cX5_insertByte 5 = .ok (.iload_n 3, 1) := by decide +kernel
theorem dX5_insertByte_6 : decode cX5_insertByte 6 = .ok (.iload_n 1, 1) := by decide +kernel
theorem dX5_insertByte_7 : decode cX5_insertByte 7 = .ok (.if_icmp .le 27, 3) := by decide +kernel
theorem dX5_insertByte_10 : decode cX5_insertByte 10 = .ok (.aload_n 0, 1) := by decide +kernel
theorem dX5_insertByte_11 : decode cX5_insertByte 11 = .ok (.getfield 14, 3) := by decide +kernel
theorem dX5_insertByte_14 : decode cX5_insertByte 14 = .ok (.iload_n 3, 1) := by decide +kernel
theorem dX5_insertByte_15 : decode cX5_insertByte 15 = .ok (.aload_n 0, 1) := by decide +kernel
theorem dX5_insertByte_16 : decode cX5_insertByte 16 = .ok (.getfield 14, 3) := by decide +kernel
theorem dX5_insertByte_19 : decode cX5_insertByte 19 = .ok (.iload_n 3, 1) := by decide +kernel
theorem dX5_insertByte_20 : decode cX5_insertByte 20 = .ok (.iconst 1, 1) := by decide +kernel
theorem dX5_insertByte_21 : decode cX5_insertByte 21 = .ok (.isub, 1) := by decide +kernel
theorem dX5_insertByte_22 : decode cX5_insertByte 22 = .ok (.invokevirtual 36, 3) := by decide +kernel
theorem dX5_insertByte_25 : decode cX5_insertByte 25 = .ok (.invokevirtual 40, 3) := by decide +kernel
theorem dX5_insertByte_28 : decode cX5_insertByte 28 = .ok (.iinc 3 (-1), 3) := by decide +kernel
theorem dX5_insertByte_31 : decode cX5_insertByte 31 = .ok (.goto (-26), 3) := by decide +kernel
theorem dX5_insertByte_34 : decode cX5_insertByte 34 = .ok (.aload_n 0, 1) := by decide +kernel
theorem dX5_insertByte_35 : decode cX5_insertByte 35 = .ok (.getfield 14, 3) := by decide +kernel
theorem dX5_insertByte_38 : decode cX5_insertByte 38 = .ok (.iload_n 1, 1) := by decide +kernel
theorem dX5_insertByte_39 : decode cX5_insertByte 39 = .ok (.iload_n 2, 1) := by decide +kernel
theorem dX5_insertByte_40 : decode cX5_insertByte 40 = .ok (.invokevirtual 40, 3) := by decide +kernel
theorem dX5_insertByte_43 : decode cX5_insertByte 43 = .ok (.aload_n 0, 1) := by decide +kernel
theorem dX5_insertByte_44 : decode cX5_insertByte 44 = .ok (.dup, 1) := by decide +kernel
theorem dX5_insertByte_45 : decode cX5_insertByte 45 = .ok (.getfield 29, 3) := by decide +kernel
theorem dX5_insertByte_48 : decode cX5_insertByte 48 = .ok (.iconst 1, 1) := by decide +kernel
theorem dX5_insertByte_49 : decode cX5_insertByte 49 = .ok (.iadd, 1) := by decide +kernel
theorem dX5_insertByte_50 : decode cX5_insertByte 50 = .ok (.putfield 29, 3) := by decide +kernel
theorem dX5_insertByte_53 : decode cX5_insertByte 53 = .ok (.return_, 1) := by decide +kernel
theorem dX5_setByte_0 : decode cX5_setByte 0 = .ok (.aload_n 0, 1) := by decide +kernel
theorem dX5_setByte_1 : decode cX5_setByte 1 = .ok (.getfield 14, 3) := by decide +kernel
theorem dX5_setByte_4 : decode cX5_setByte 4 = .ok (.iload_n 1, 1) := by decide +kernel
theorem dX5_setByte_5 : decode cX5_setByte 5 = .ok (.iload_n 2, 1) := by decide +kernel
theorem dX5_setByte_6 : decode cX5_setByte 6 = .ok (.invokevirtual 40, 3) := by decide +kernel
theorem dX5_setByte_9 : decode cX5_setByte 9 = .ok (.return_, 1) := by decide +kernel
theorem dX5_removeBytes_0 : decode cX5_removeBytes 0 = .ok (.aload_n 0, 1) := by decide +kernel
theorem dX5_removeBytes_1 : decode cX5_removeBytes 1 = .ok (.dup, 1) := by decide +kernel
theorem dX5_removeBytes_2 : decode cX5_removeBytes 2 = .ok (.getfield 29, 3) := by decide +kernel
theorem dX5_removeBytes_5 : decode cX5_removeBytes 5 = .ok (.iload_n 2, 1) := by decide +kernel
theorem dX5_removeBytes_6 : decode cX5_removeBytes 6 = .ok (.isub, 1) := by decide +kernel
theorem dX5_removeBytes_7 : decode cX5_removeBytes 7 = .ok (.putfield 29, 3) := by decide +kernel
theorem dX5_removeBytes_10 : decode cX5_removeBytes 10 = .ok (.iload_n 1, 1) := by decide +kernel
theorem dX5_removeBytes_11 : decode cX5_removeBytes 11 = .ok (.istore_n 3, 1) := by decide +kernel
theorem dX5_removeBytes_12 : decode cX5_removeBytes 12 = .ok (.iload_n 3, 1) := by decide +kernel
theorem dX5_removeBytes_13 : decode cX5_removeBytes 13 = .ok (.aload_n 0, 1) := by decide +kernel
theorem dX5_removeBytes_14 : decode cX5_removeBytes 14 = .ok (.getfield 29, 3) := by decide +kernel
theorem dX5_removeBytes_17 : decode cX5_removeBytes 17 = .ok (.if_icmp .ge 27, 3) := by decide +kernel
theorem dX5_removeBytes_20 : decode cX5_removeBytes 20 = .ok (.aload_n 0, 1) := by decide +kernel
theorem dX5_removeBytes_21 : decode cX5_removeBytes 21 = .ok (.getfield 14, 3) := by decide +kernel
theorem dX5_removeBytes_24 : decode cX5_removeBytes 24 = .ok (.iload_n 3, 1) := by decide +kernel
theorem dX5_removeBytes_25 : decode cX5_removeBytes 25 = .ok (.aload_n 0, 1) := by decide +kernel
theorem dX5_removeBytes_26 : decode cX5_removeBytes 26 = .ok (.getfield 14, 3) := by decide +kernel
theorem dX5_removeBytes_29 : decode cX5_removeBytes 29 = .ok (.iload_n 3, 1) := by decide +kernel
theorem dX5_removeBytes_30 : decode cX5_removeBytes 30 = .ok (.iload_n 2, 1) := by decide +kernel
theorem dX5_removeBytes_31 : decode cX5_removeBytes 31 = .ok (.iadd, 1) := by decide +kernel
theorem dX5_removeBytes_32 : decode cX5_removeBytes 32 = .ok (.invokevirtual 36, 3) := by decide +kernel
theorem dX5_removeBytes_35 : decode cX5_removeBytes 35 = .ok (.invokevirtual 40, 3) := by decide +kernel
theorem dX5_removeBytes_38 : decode cX5_removeBytes 38 = .ok (.iinc 3 1, 3) := by decide +kernel
theorem dX5_removeBytes_41 : decode cX5_removeBytes 41 = .ok (.goto (-29), 3) := by decide +kernel
theorem dX5_removeBytes_44 : decode cX5_removeBytes 44 = .ok (.return_, 1) := by decide +kernel
theorem dX5_numberBetween_0 : decode cX5_numberBetween 0 = .ok (.iconst 0, 1) := by decide +kernel
theorem dX5_numberBetween_1 : decode cX5_numberBetween 1 = .ok (.istore_n 3, 1) := by decide +kernel
theorem dX5_numberBetween_2 : decode cX5_numberBetween 2 = .ok (.iload_n 1, 1) := by decide +kernel
theorem dX5_numberBetween_3 : decode cX5_numberBetween 3 = .ok (.istore 4, 2) := by decide +kernel
theorem dX5_numberBetween_5 : decode cX5_numberBetween 5 = .ok (.iload 4, 2) := by decide +kernel
theorem dX5_numberBetween_7 : decode cX5_numberBetween 7 = .ok (.iload_n 2, 1) := by decide +kernel
theorem dX5_numberBetween_8 : decode cX5_numberBetween 8 = .ok (.if_icmp .ge 27, 3) := by decide +kernel
theorem dX5_numberBetween_11 : decode cX5_numberBetween 11 = .ok (.iload_n 3, 1) := by decide +kernel
theorem dX5_numberBetween_12 : decode cX5_numberBetween 12 = .ok (.bipush 10, 2) := by decide +kernel
theorem dX5_numberBetween_14 : decode cX5_numberBetween 14 = .ok (.imul, 1) := by decide +kernel
theorem dX5_numberBetween_15 : decode cX5_numberBetween 15 = .ok (.aload_n 0, 1) := by decide +kernel
theorem dX5_numberBetween_16 : decode cX5_numberBetween 16 = .ok (.iload 4, 2) := by decide +kernel
theorem dX5_numberBetween_18 : decode cX5_numberBetween 18 = .ok (.invokevirtual 44, 3) := by decide +kernel
theorem dX5_numberBetween_21 : decode cX5_numberBetween 21 = .ok (.iadd, 1) := by decide +kernel
theorem dX5_numberBetween_22 : decode cX5_numberBetween 22 = .ok (.bipush 48, 2) := by decide +kernel
theorem dX5_numberBetween_24 : decode cX5_numberBetween 24 = .ok (.isub, 1) := by decide +kernel
theorem dX5_numberBetween_25 : decode cX5_numberBetween 25 = .ok (.ldc 47, 2) := by decide +kernel
theorem dX5_numberBetween_27 : decode cX5_numberBetween 27 = .ok (.irem, 1) := by decide +kernel
theorem dX5_numberBetween_28 : decode cX5_numberBetween 28 = .ok (.istore_n 3, 1) := by decide +kernel
theorem dX5_numberBetween_29 : decode cX5_numberBetween 29 = .ok (.iinc 4 1, 3) := by decide +kernel
theorem dX5_numberBetween_32 : decode cX5_numberBetween 32 = .ok (.goto (-27), 3) := by decide +kernel
theorem dX5_numberBetween_35 : decode cX5_numberBetween 35 = .ok (.iload_n 3, 1) := by decide +kernel
theorem dX5_numberBetween_36 : decode cX5_numberBetween 36 = .ok (.ireturn, 1) := by decide +kernel
theorem dX5_patternSize_0 : decode cX5_patternSize 0 = .ok (.aload_n 0, 1) := by decide +kernel
theorem dX5_patternSize_1 : decode cX5_patternSize 1 = .ok (.getfield 20, 3) := by decide +kernel
theorem dX5_patternSize_4 : decode cX5_patternSize 4 = .ok (.iload_n 1, 1) := by decide +kernel
theorem dX5_patternSize_5 : decode cX5_patternSize 5 = .ok (.invokevirtual 36, 3) := by decide +kernel
theorem dX5_patternSize_8 : decode cX5_patternSize 8 = .ok (.ireturn, 1) := by decide +kernel
theorem dX5_patternAt_0 : decode cX5_patternAt 0 = .ok (.aload_n 0, 1) := by decide +kernel
theorem dX5_patternAt_1 : decode cX5_patternAt 1 = .ok (.getfield 23, 3) := by decide +kernel
theorem dX5_patternAt_4 : decode cX5_patternAt 4 = .ok (.iload_n 1, 1) := by decide +kernel
theorem dX5_patternAt_5 : decode cX5_patternAt 5 = .ok (.bipush 8, 2) := by decide +kernel
theorem dX5_patternAt_7 : decode cX5_patternAt 7 = .ok (.imul, 1) := by decide +kernel
theorem dX5_patternAt_8 : decode cX5_patternAt 8 = .ok (.iload_n 2, 1) := by decide +kernel
theorem dX5_patternAt_9 : decode cX5_patternAt 9 = .ok (.iadd, 1) := by decide +kernel
theorem dX5_patternAt_10 : decode cX5_patternAt 10 = .ok (.invokevirtual 36, 3) := by decide +kernel
theorem dX5_patternAt_13 : decode cX5_patternAt 13 = .ok (.ireturn, 1) := by decide +kernel
theorem dX5_setPattern_0 : decode cX5_setPattern 0 = .ok (.aload_n 0, 1) := by decide +kernel
theorem dX5_setPattern_1 : decode cX5_setPattern 1 = .ok (.getfield 20, 3) := by decide +kernel
theorem dX5_setPattern_4 : decode cX5_setPattern 4 = .ok (.iload_n 1, 1) := by decide +kernel
theorem dX5_setPattern_5 : decode cX5_setPattern 5 = .ok (.iload_n 3, 1) := by decide +kernel
theorem dX5_setPattern_6 : decode cX5_setPattern 6 = .ok (.invokevirtual 40, 3) := by decide +kernel
theorem dX5_setPattern_9 : decode cX5_setPattern 9 = .ok (.iconst 0, 1) := by decide +kernel
theorem dX5_setPattern_10 : decode cX5_setPattern 10 = .ok (.istore 4, 2) := by decide +kernel
theorem dX5_setPattern_12 : decode cX5_setPattern 12 = .ok (.iload 4, 2) := by decide +kernel
theorem dX5_setPattern_14 : decode cX5_setPattern 14 = .ok (.iload_n 3, 1) := by decide +kernel
theorem dX5_setPattern_15 : decode cX5_setPattern 15 = .ok (.if_icmp .ge 29, 3) := by decide +kernel
theorem dX5_setPattern_18 : decode cX5_setPattern 18 = .ok (.aload_n 0, 1) := by decide +kernel
theorem dX5_setPattern_19 : decode cX5_setPattern 19 = .ok (.getfield 23, 3) := by decide +kernel
theorem dX5_setPattern_22 : decode cX5_setPattern 22 = .ok (.iload_n 1, 1) := by decide +kernel
theorem dX5_setPattern_23 : decode cX5_setPattern 23 = .ok (.bipush 8, 2) := by decide +kernel
theorem dX5_setPattern_25 : decode cX5_setPattern 25 = .ok (.imul, 1) := by decide +kernel
theorem dX5_setPattern_26 : decode cX5_setPattern 26 = .ok (.iload 4, 2) := by decide +kernel
theorem dX5_setPattern_28 : decode cX5_setPattern 28 = .ok (.iadd, 1) := by decide +kernel
theorem dX5_setPattern_29 : decode cX5_setPattern 29 = .ok (.aload_n 2, 1) := by decide +kernel
theorem dX5_setPattern_30 : decode cX5_setPattern 30 = .ok (.iload 4, 2) := by decide +kernel
theorem dX5_setPattern_32 : decode cX5_setPattern 32 = .ok (.invokevirtual 36, 3) := by decide +kernel
theorem dX5_setPattern_35 : decode cX5_setPattern 35 = .ok (.invokevirtual 40, 3) := by decide +kernel
theorem dX5_setPattern_38 : decode cX5_setPattern 38 = .ok (.iinc 4 1, 3) := by decide +kernel
theorem dX5_setPattern_41 : decode cX5_setPattern 41 = .ok (.goto (-29), 3) := by decide +kernel
theorem dX5_setPattern_44 : decode cX5_setPattern 44 = .ok (.return_, 1) := by decide +kernel
theorem dX5_stopOf_0 : decode cX5_stopOf 0 = .ok (.aload_n 0, 1) := by decide +kernel
theorem dX5_stopOf_1 : decode cX5_stopOf 1 = .ok (.getfield 26, 3) := by decide +kernel
theorem dX5_stopOf_4 : decode cX5_stopOf 4 = .ok (.iload_n 1, 1) := by decide +kernel
theorem dX5_stopOf_5 : decode cX5_stopOf 5 = .ok (.invokevirtual 36, 3) := by decide +kernel
theorem dX5_stopOf_8 : decode cX5_stopOf 8 = .ok (.ireturn, 1) := by decide +kernel
theorem dX5_putStop_0 : decode cX5_putStop 0 = .ok (.aload_n 0, 1) := by decide +kernel
theorem dX5_putStop_1 : decode cX5_putStop 1 = .ok (.getfield 26, 3) := by decide +kernel
theorem dX5_putStop_4 : decode cX5_putStop 4 = .ok (.iload_n 1, 1) := by decide +kernel
theorem dX5_putStop_5 : decode cX5_putStop 5 = .ok (.iload_n 2, 1) := by decide +kernel
theorem dX5_putStop_6 : decode cX5_putStop 6 = .ok (.invokevirtual 40, 3) := by decide +kernel
theorem dX5_putStop_9 : decode cX5_putStop 9 = .ok (.return_, 1) := by decide +kernel
theorem dX5_copyFrom_0 : decode cX5_copyFrom 0 = .ok (.aload_n 0, 1) := by decide +kernel
theorem dX5_copyFrom_1 : decode cX5_copyFrom 1 = .ok (.aload_n 1, 1) := by decide +kernel
theorem dX5_copyFrom_2 : decode cX5_copyFrom 2 = .ok (.getfield 29, 3) := by decide +kernel
theorem dX5_copyFrom_5 : decode cX5_copyFrom 5 = .ok (.putfield 29, 3) := by decide +kernel
theorem dX5_copyFrom_8 : decode cX5_copyFrom 8 = .ok (.aload_n 0, 1) := by decide +kernel
theorem dX5_copyFrom_9 : decode cX5_copyFrom 9 = .ok (.getfield 14, 3) := by decide +kernel
theorem dX5_copyFrom_12 : decode cX5_copyFrom 12 = .ok (.aload_n 1, 1) := by decide +kernel
theorem dX5_copyFrom_13 : decode cX5_copyFrom 13 = .ok (.getfield 14, 3) := by decide +kernel
theorem dX5_copyFrom_16 : decode cX5_copyFrom 16 = .ok (.invokevirtual 48, 3) := by decide +kernel
theorem dX5_copyFrom_19 : decode cX5_copyFrom 19 = .ok (.aload_n 0, 1) := by decide +kernel
theorem dX5_copyFrom_20 : decode cX5_copyFrom 20 = .ok (.getfield 20, 3) := by decide +kernel
theorem dX5_copyFrom_23 : decode cX5_copyFrom 23 = .ok (.aload_n 1, 1) := by decide +kernel
theorem dX5_copyFrom_24 : decode cX5_copyFrom 24 = .ok (.getfield 20, 3) := by decide +kernel
theorem dX5_copyFrom_27 : decode cX5_copyFrom 27 = .ok (.invokevirtual 48, 3) := by decide +kernel
theorem dX5_copyFrom_30 : decode cX5_copyFrom 30 = .ok (.aload_n 0, 1) := by decide +kernel
theorem dX5_copyFrom_31 : decode cX5_copyFrom 31 = .ok (.getfield 23, 3) := by decide +kernel
theorem dX5_copyFrom_34 : decode cX5_copyFrom 34 = .ok (.aload_n 1, 1) := by decide +kernel
theorem dX5_copyFrom_35 : decode cX5_copyFrom 35 = .ok (.getfield 23, 3) := by decide +kernel
theorem dX5_copyFrom_38 : decode cX5_copyFrom 38 = .ok (.invokevirtual 48, 3) := by decide +kernel
theorem dX5_copyFrom_41 : decode cX5_copyFrom 41 = .ok (.aload_n 0, 1) := by decide +kernel
theorem dX5_copyFrom_42 : decode cX5_copyFrom 42 = .ok (.getfield 26, 3) := by decide +kernel
theorem dX5_copyFrom_45 : decode cX5_copyFrom 45 = .ok (.aload_n 1, 1) := by decide +kernel
theorem dX5_copyFrom_46 : decode cX5_copyFrom 46 = .ok (.getfield 26, 3) := by decide +kernel
theorem dX5_copyFrom_49 : decode cX5_copyFrom 49 = .ok (.invokevirtual 48, 3) := by decide +kernel
theorem dX5_copyFrom_52 : decode cX5_copyFrom 52 = .ok (.return_, 1) := by decide +kernel
theorem dX5_mixInto_0 : decode cX5_mixInto 0 = .ok (.aload_n 0, 1) := by decide +kernel
theorem dX5_mixInto_1 : decode cX5_mixInto 1 = .ok (.getfield 14, 3) := by decide +kernel
theorem dX5_mixInto_4 : decode cX5_mixInto 4 = .ok (.lload_n 1, 1) := by decide +kernel
theorem dX5_mixInto_5 : decode cX5_mixInto 5 = .ok (.aload_n 0, 1) := by decide +kernel
theorem dX5_mixInto_6 : decode cX5_mixInto 6 = .ok (.getfield 29, 3) := by decide +kernel
theorem dX5_mixInto_9 : decode cX5_mixInto 9 = .ok (.i2l, 1) := by decide +kernel
theorem dX5_mixInto_10 : decode cX5_mixInto 10 = .ok (.invokestatic 52, 3) := by decide +kernel
theorem dX5_mixInto_13 : decode cX5_mixInto 13 = .ok (.iconst 0, 1) := by decide +kernel
theorem dX5_mixInto_14 : decode cX5_mixInto 14 = .ok (.aload_n 0, 1) := by decide +kernel
theorem dX5_mixInto_15 : decode cX5_mixInto 15 = .ok (.getfield 29, 3) := by decide +kernel
theorem dX5_mixInto_18 : decode cX5_mixInto 18 = .ok (.invokevirtual 56, 3) := by decide +kernel
theorem dX5_mixInto_21 : decode cX5_mixInto 21 = .ok (.lstore_n 3, 1) := by decide +kernel
theorem dX5_mixInto_22 : decode cX5_mixInto 22 = .ok (.iconst 0, 1) := by decide +kernel
theorem dX5_mixInto_23 : decode cX5_mixInto 23 = .ok (.istore 5, 2) := by decide +kernel
theorem dX5_mixInto_25 : decode cX5_mixInto 25 = .ok (.iload 5, 2) := by decide +kernel
theorem dX5_mixInto_27 : decode cX5_mixInto 27 = .ok (.bipush 6, 2) := by decide +kernel
theorem dX5_mixInto_29 : decode cX5_mixInto 29 = .ok (.if_icmp .ge 51, 3) := by decide +kernel
theorem dX5_mixInto_32 : decode cX5_mixInto 32 = .ok (.aload_n 0, 1) := by decide +kernel
theorem dX5_mixInto_33 : decode cX5_mixInto 33 = .ok (.iload 5, 2) := by decide +kernel
theorem dX5_mixInto_35 : decode cX5_mixInto 35 = .ok (.invokevirtual 60, 3) := by decide +kernel
theorem dX5_mixInto_38 : decode cX5_mixInto 38 = .ok (.istore 6, 2) := by decide +kernel
theorem dX5_mixInto_40 : decode cX5_mixInto 40 = .ok (.aload_n 0, 1) := by decide +kernel
theorem dX5_mixInto_41 : decode cX5_mixInto 41 = .ok (.getfield 23, 3) := by decide +kernel
theorem dX5_mixInto_44 : decode cX5_mixInto 44 = .ok (.lload_n 3, 1) := by decide +kernel
theorem dX5_mixInto_45 : decode cX5_mixInto 45 = .ok (.iload 6, 2) := by decide +kernel
theorem dX5_mixInto_47 : decode cX5_mixInto 47 = .ok (.i2l, 1) := by decide +kernel
theorem dX5_mixInto_48 : decode cX5_mixInto 48 = .ok (.invokestatic 52, 3) := by decide +kernel
theorem dX5_mixInto_51 : decode cX5_mixInto 51 = .ok (.iload 5, 2) := by decide +kernel
theorem dX5_mixInto_53 : decode cX5_mixInto 53 = .ok (.bipush 8, 2) := by decide +kernel
theorem dX5_mixInto_55 : decode cX5_mixInto 55 = .ok (.imul, 1) := by decide +kernel
theorem dX5_mixInto_56 : decode cX5_mixInto 56 = .ok (.iload 6, 2) := by decide +kernel
theorem dX5_mixInto_58 : decode cX5_mixInto 58 = .ok (.invokevirtual 56, 3) := by decide +kernel
theorem dX5_mixInto_61 : decode cX5_mixInto 61 = .ok (.lstore_n 3, 1) := by decide +kernel
theorem dX5_mixInto_62 : decode cX5_mixInto 62 = .ok (.lload_n 3, 1) := by decide +kernel
theorem dX5_mixInto_63 : decode cX5_mixInto 63 = .ok (.aload_n 0, 1) := by decide +kernel
theorem dX5_mixInto_64 : decode cX5_mixInto 64 = .ok (.iload 5, 2) := by decide +kernel
theorem dX5_mixInto_66 : decode cX5_mixInto 66 = .ok (.invokevirtual 63, 3) := by decide +kernel
theorem dX5_mixInto_69 : decode cX5_mixInto 69 = .ok (.i2l, 1) := by decide +kernel
theorem dX5_mixInto_70 : decode cX5_mixInto 70 = .ok (.invokestatic 52, 3) := by decide +kernel
theorem dX5_mixInto_73 : decode cX5_mixInto 73 = .ok (.lstore_n 3, 1) := by decide +kernel
theorem dX5_mixInto_74 : decode cX5_mixInto 74 = .ok (.iinc 5 1, 3) := by decide +kernel
theorem dX5_mixInto_77 : decode cX5_mixInto 77 = .ok (.goto (-52), 3) := by decide +kernel
theorem dX5_mixInto_80 : decode cX5_mixInto 80 = .ok (.lload_n 3, 1) := by decide +kernel
theorem dX5_mixInto_81 : decode cX5_mixInto 81 = .ok (.lreturn, 1) := by decide +kernel
theorem dX6_init_0 : decode cX6_init 0 = .ok (.aload_n 0, 1) := by decide +kernel
theorem dX6_init_1 : decode cX6_init 1 = .ok (.invokespecial 3, 3) := by decide +kernel
theorem dX6_init_4 : decode cX6_init 4 = .ok (.aload_n 0, 1) := by decide +kernel
theorem dX6_init_5 : decode cX6_init 5 = .ok (.new 9, 3) := by decide +kernel
theorem dX6_init_8 : decode cX6_init 8 = .ok (.dup, 1) := by decide +kernel
theorem dX6_init_9 : decode cX6_init 9 = .ok (.invokespecial 11, 3) := by decide +kernel
theorem dX6_init_12 : decode cX6_init 12 = .ok (.putfield 12, 3) := by decide +kernel
theorem dX6_init_15 : decode cX6_init 15 = .ok (.aload_n 0, 1) := by decide +kernel
theorem dX6_init_16 : decode cX6_init 16 = .ok (.new 16, 3) := by decide +kernel
theorem dX6_init_19 : decode cX6_init 19 = .ok (.dup, 1) := by decide +kernel
theorem dX6_init_20 : decode cX6_init 20 = .ok (.invokespecial 18, 3) := by decide +kernel
theorem dX6_init_23 : decode cX6_init 23 = .ok (.putfield 19, 3) := by decide +kernel
theorem dX6_init_26 : decode cX6_init 26 = .ok (.aload_n 0, 1) := by decide +kernel
theorem dX6_init_27 : decode cX6_init 27 = .ok (.new 23, 3) := by decide +kernel
theorem dX6_init_30 : decode cX6_init 30 = .ok (.dup, 1) := by decide +kernel
theorem dX6_init_31 : decode cX6_init 31 = .ok (.bipush 8, 2) := by decide +kernel
theorem dX6_init_33 : decode cX6_init 33 = .ok (.invokespecial 25, 3) := by decide +kernel
theorem dX6_init_36 : decode cX6_init 36 = .ok (.putfield 28, 3) := by decide +kernel
theorem dX6_init_39 : decode cX6_init 39 = .ok (.aload_n 0, 1) := by decide +kernel
theorem dX6_init_40 : decode cX6_init 40 = .ok (.new 23, 3) := by decide +kernel
theorem dX6_init_43 : decode cX6_init 43 = .ok (.dup, 1) := by decide +kernel
theorem dX6_init_44 : decode cX6_init 44 = .ok (.iconst 3, 1) := by decide +kernel
theorem dX6_init_45 : decode cX6_init 45 = .ok (.invokespecial 25, 3) := by decide +kernel
theorem dX6_init_48 : decode cX6_init 48 = .ok (.putfield 32, 3) := by decide +kernel
theorem dX6_init_51 : decode cX6_init 51 = .ok (.aload_n 0, 1) := by decide +kernel
theorem dX6_init_52 : decode cX6_init 52 = .ok (.new 35, 3) := by decide +kernel
theorem dX6_init_55 : decode cX6_init 55 = .ok (.dup, 1) := by decide +kernel
theorem dX6_init_56 : decode cX6_init 56 = .ok (.aload_n 0, 1) := by decide +kernel
theorem dX6_init_57 : decode cX6_init 57 = .ok (.getfield 12, 3) := by decide +kernel
theorem dX6_init_60 : decode cX6_init 60 = .ok (.invokespecial 37, 3) := by decide +kernel
theorem dX6_init_63 : decode cX6_init 63 = .ok (.putfield 40, 3) := by decide +kernel
theorem dX6_init_66 : decode cX6_init 66 = .ok (.aload_n 0, 1) := by decide +kernel
theorem dX6_init_67 : decode cX6_init 67 = .ok (.new 44, 3) := by decide +kernel
theorem dX6_init_70 : decode cX6_init 70 = .ok (.dup, 1) := by decide +kernel
theorem dX6_init_71 : decode cX6_init 71 = .ok (.aload_n 0, 1) := by decide +kernel
theorem dX6_init_72 : decode cX6_init 72 = .ok (.getfield 12, 3) := by decide +kernel
theorem dX6_init_75 : decode cX6_init 75 = .ok (.aload_n 0, 1) := by decide +kernel
theorem dX6_init_76 : decode cX6_init 76 = .ok (.getfield 40, 3) := by decide +kernel
theorem dX6_init_79 : decode cX6_init 79 = .ok (.invokespecial 46, 3) := by decide +kernel
theorem dX6_init_82 : decode cX6_init 82 = .ok (.putfield 49, 3) := by decide +kernel
theorem dX6_init_85 : decode cX6_init 85 = .ok (.aload_n 0, 1) := by decide +kernel
theorem dX6_init_86 : decode cX6_init 86 = .ok (.iconst 0, 1) := by decide +kernel
theorem dX6_init_87 : decode cX6_init 87 = .ok (.putfield 53, 3) := by decide +kernel
theorem dX6_init_90 : decode cX6_init 90 = .ok (.aload_n 0, 1) := by decide +kernel
theorem dX6_init_91 : decode cX6_init 91 = .ok (.iconst 1, 1) := by decide +kernel
theorem dX6_init_92 : decode cX6_init 92 = .ok (.putfield 57, 3) := by decide +kernel
theorem dX6_init_95 : decode cX6_init 95 = .ok (.return_, 1) := by decide +kernel
theorem dX6_insert_0 : decode cX6_insert 0 = .ok (.iload_n 1, 1) := by decide +kernel
theorem dX6_insert_1 : decode cX6_insert 1 = .ok (.ifCond .lt 21, 3) := by decide +kernel
theorem dX6_insert_4 : decode cX6_insert 4 = .ok (.iload_n 1, 1) := by decide +kernel
theorem dX6_insert_5 : decode cX6_insert 5 = .ok (.aload_n 0, 1) := by decide +kernel
theorem dX6_insert_6 : decode cX6_insert 6 = .ok (.getfield 12, 3) := by decide +kernel
theorem dX6_insert_9 : decode cX6_insert 9 = .ok (.invokevirtual 61, 3) := by decide +kernel
theorem dX6_insert_12 : decode cX6_insert 12 = .ok (.if_icmp .gt 10, 3) := by decide +kernel
theorem dX6_insert_15 : decode cX6_insert 15 = .ok (.iload_n 2, 1) := by decide +kernel
theorem dX6_insert_16 : decode cX6_insert 16 = .ok (.invokestatic 65, 3) := by decide +kernel
theorem dX6_insert_19 : decode cX6_insert 19 = .ok (.ifCond .ne 10, 3) := by decide +kernel
theorem dX6_insert_22 : decode cX6_insert 22 = .ok (.aload_n 0, 1) := by decide +kernel
theorem dX6_insert_23 : decode cX6_insert 23 = .ok (.bipush (-2), 2) := by decide +kernel
theorem dX6_insert_25 : decode cX6_insert 25 = .ok (.invokevirtual 69, 3) := by decide +kernel
theorem dX6_insert_28 : decode cX6_insert 28 = .ok (.ireturn, 1) := by decide +kernel
theorem dX6_insert_29 : decode cX6_insert 29 = .ok (.aload_n 0, 1) := by decide +kernel
theorem dX6_insert_30 : decode cX6_insert 30 = .ok (.getfield 12, 3) := by decide +kernel
theorem dX6_insert_33 : decode cX6_insert 33 = .ok (.invokevirtual 61, 3) := by decide +kernel
theorem dX6_insert_36 : decode cX6_insert 36 = .ok (.bipush 100, 2) := by decide +kernel
theorem dX6_insert_38 : decode cX6_insert 38 = .ok (.if_icmp .lt 10, 3) := by decide +kernel
theorem dX6_insert_41 : decode cX6_insert 41 = .ok (.aload_n 0, 1) := by decide +kernel
theorem dX6_insert_42 : decode cX6_insert 42 = .ok (.bipush (-4), 2) := by decide +kernel
theorem dX6_insert_44 : decode cX6_insert 44 = .ok (.invokevirtual 69, 3) := by decide +kernel
theorem dX6_insert_47 : decode cX6_insert 47 = .ok (.ireturn, 1) := by decide +kernel
theorem dX6_insert_48 : decode cX6_insert 48 = .ok (.aload_n 0, 1) := by decide +kernel
theorem dX6_insert_49 : decode cX6_insert 49 = .ok (.invokevirtual 73, 3) := by decide +kernel
theorem dX6_insert_52 : decode cX6_insert 52 = .ok (.aload_n 0, 1) := by decide +kernel
theorem dX6_insert_53 : decode cX6_insert 53 = .ok (.getfield 12, 3) := by decide +kernel
theorem dX6_insert_56 : decode cX6_insert 56 = .ok (.iload_n 1, 1) := by decide +kernel
theorem dX6_insert_57 : decode cX6_insert 57 = .ok (.iload_n 2, 1) := by decide +kernel
theorem dX6_insert_58 : decode cX6_insert 58 = .ok (.invokevirtual 76, 3) := by decide +kernel
theorem dX6_insert_61 : decode cX6_insert 61 = .ok (.aload_n 0, 1) := by decide +kernel
theorem dX6_insert_62 : decode cX6_insert 62 = .ok (.getfield 12, 3) := by decide +kernel
theorem dX6_insert_65 : decode cX6_insert 65 = .ok (.invokevirtual 61, 3) := by decide +kernel
theorem dX6_insert_68 : decode cX6_insert 68 = .ok (.ireturn, 1) := by decide +kernel
theorem dX6_replace_0 : decode cX6_replace 0 = .ok (.aload_n 0, 1) := by decide +kernel
theorem dX6_replace_1 : decode cX6_replace 1 = .ok (.iload_n 1, 1) := by decide +kernel
theorem dX6_replace_2 : decode cX6_replace 2 = .ok (.invokevirtual 80, 3) := by decide +kernel
theorem dX6_replace_5 : decode cX6_replace 5 = .ok (.ifCond .eq 10, 3) := by decide +kernel
theorem dX6_replace_8 : decode cX6_replace 8 = .ok (.iload_n 2, 1) := by decide +kernel
theorem dX6_replace_9 : decode cX6_replace 9 = .ok (.invokestatic 65, 3) := by decide +kernel
theorem dX6_replace_12 : decode cX6_replace 12 = .ok (.ifCond .ne 10, 3) := by decide +kernel
theorem dX6_replace_15 : decode cX6_replace 15 = .ok (.aload_n 0, 1) := by decide +kernel
theorem dX6_replace_16 : decode cX6_replace 16 = .ok (.bipush (-2), 2) := by decide +kernel
theorem dX6_replace_18 : decode cX6_replace 18 = .ok (.invokevirtual 69, 3) := by decide +kernel
theorem dX6_replace_21 : decode cX6_replace 21 = .ok (.ireturn, 1) := by decide +kernel
theorem dX6_replace_22 : decode cX6_replace 22 = .ok (.aload_n 0, 1) := by decide +kernel
theorem dX6_replace_23 : decode cX6_replace 23 = .ok (.getfield 12, 3) := by decide +kernel
theorem dX6_replace_26 : decode cX6_replace 26 = .ok (.iload_n 1, 1) := by decide +kernel
theorem dX6_replace_27 : decode cX6_replace 27 = .ok (.invokevirtual 83, 3) := by decide +kernel
theorem dX6_replace_30 : decode cX6_replace 30 = .ok (.istore_n 3, 1) := by decide +kernel
theorem dX6_replace_31 : decode cX6_replace 31 = .ok (.aload_n 0, 1) := by decide +kernel
theorem dX6_replace_32 : decode cX6_replace 32 = .ok (.invokevirtual 73, 3) := by decide +kernel
theorem dX6_replace_35 : decode cX6_replace 35 = .ok (.aload_n 0, 1) := by decide +kernel
theorem dX6_replace_36 : decode cX6_replace 36 = .ok (.getfield 12, 3) := by decide +kernel
theorem dX6_replace_39 : decode cX6_replace 39 = .ok (.iload_n 1, 1) := by decide +kernel
theorem dX6_replace_40 : decode cX6_replace 40 = .ok (.iload_n 2, 1) := by decide +kernel
theorem dX6_replace_41 : decode cX6_replace 41 = .ok (.invokevirtual 86, 3) := by decide +kernel
theorem dX6_replace_44 : decode cX6_replace 44 = .ok (.iload_n 3, 1) := by decide +kernel
theorem dX6_replace_45 : decode cX6_replace 45 = .ok (.ireturn, 1) := by decide +kernel
theorem dX6_delete_0 : decode cX6_delete 0 = .ok (.aload_n 0, 1) := by decide +kernel
theorem dX6_delete_1 : decode cX6_delete 1 = .ok (.iload_n 1, 1) := by decide +kernel
theorem dX6_delete_2 : decode cX6_delete 2 = .ok (.invokevirtual 80, 3) := by decide +kernel
theorem dX6_delete_5 : decode cX6_delete 5 = .ok (.ifCond .eq 21, 3) := by decide +kernel
theorem dX6_delete_8 : decode cX6_delete 8 = .ok (.iload_n 2, 1) := by decide +kernel
theorem dX6_delete_9 : decode cX6_delete 9 = .ok (.iconst 1, 1) := by decide +kernel
theorem dX6_delete_10 : decode cX6_delete 10 = .ok (.if_icmp .lt 16, 3) := by decide +kernel
theorem dX6_delete_13 : decode cX6_delete 13 = .ok (.iload_n 2, 1) := by decide +kernel
theorem dX6_delete_14 : decode cX6_delete 14 = .ok (.aload_n 0, 1) := by decide +kernel
theorem dX6_delete_15 : decode cX6_delete 15 = .ok (.getfield 12, 3) := by decide +kernel
theorem dX6_delete_18 : decode cX6_delete 18 = .ok (.invokevirtual 61, 3) := by decide +kernel
theorem dX6_delete_21 : decode cX6_delete 21 = .ok (.iload_n 1, 1) := by decide +kernel
theorem dX6_delete_22 : decode cX6_delete 22 = .ok (.isub, 1) := by decide +kernel
theorem dX6_delete_23 : decode cX6_delete 23 = .ok (.if_icmp .le 10, 3) := by decide +kernel
theorem dX6_delete_26 : decode cX6_delete 26 = .ok (.aload_n 0, 1) := by decide +kernel
theorem dX6_delete_27 : decode cX6_delete 27 = .ok (.bipush (-2), 2) := by decide +kernel
theorem dX6_delete_29 : decode cX6_delete 29 = .ok (.invokevirtual 69, 3) := by decide +kernel
theorem dX6_delete_32 : decode cX6_delete 32 = .ok (.ireturn, 1) := by decide +kernel
theorem dX6_delete_33 : decode cX6_delete 33 = .ok (.aload_n 0, 1) := by decide +kernel
theorem dX6_delete_34 : decode cX6_delete 34 = .ok (.invokevirtual 73, 3) := by decide +kernel
theorem dX6_delete_37 : decode cX6_delete 37 = .ok (.aload_n 0, 1) := by decide +kernel
theorem dX6_delete_38 : decode cX6_delete 38 = .ok (.getfield 12, 3) := by decide +kernel
theorem dX6_delete_41 : decode cX6_delete 41 = .ok (.iload_n 1, 1) := by decide +kernel
theorem dX6_delete_42 : decode cX6_delete 42 = .ok (.iload_n 2, 1) := by decide +kernel
theorem dX6_delete_43 : decode cX6_delete 43 = .ok (.invokevirtual 89, 3) := by decide +kernel
theorem dX6_delete_46 : decode cX6_delete 46 = .ok (.aload_n 0, 1) := by decide +kernel
theorem dX6_delete_47 : decode cX6_delete 47 = .ok (.getfield 12, 3) := by decide +kernel
theorem dX6_delete_50 : decode cX6_delete 50 = .ok (.invokevirtual 61, 3) := by decide +kernel
theorem dX6_delete_53 : decode cX6_delete 53 = .ok (.ireturn, 1) := by decide +kernel
theorem dX6_length_0 : decode cX6_length 0 = .ok (.aload_n 0, 1) := by decide +kernel
theorem dX6_length_1 : decode cX6_length 1 = .ok (.getfield 12, 3) := by decide +kernel
theorem dX6_length_4 : decode cX6_length 4 = .ok (.invokevirtual 61, 3) := by decide +kernel
theorem dX6_length_7 : decode cX6_length 7 = .ok (.ireturn, 1) := by decide +kernel
theorem dX6_byteAt_0 : decode cX6_byteAt 0 = .ok (.aload_n 0, 1) := by decide +kernel
theorem dX6_byteAt_1 : decode cX6_byteAt 1 = .ok (.iload_n 1, 1) := by decide +kernel
theorem dX6_byteAt_2 : decode cX6_byteAt 2 = .ok (.invokevirtual 80, 3) := by decide +kernel
theorem dX6_byteAt_5 : decode cX6_byteAt 5 = .ok (.ifCond .eq 14, 3) := by decide +kernel
theorem dX6_byteAt_8 : decode cX6_byteAt 8 = .ok (.aload_n 0, 1) := by decide +kernel
theorem dX6_byteAt_9 : decode cX6_byteAt 9 = .ok (.getfield 12, 3) := by decide +kernel
theorem dX6_byteAt_12 : decode cX6_byteAt 12 = .ok (.iload_n 1, 1) := by decide +kernel
theorem dX6_byteAt_13 : decode cX6_byteAt 13 = .ok (.invokevirtual 83, 3) := by decide +kernel
theorem dX6_byteAt_16 : decode cX6_byteAt 16 = .ok (.goto 9, 3) := by decide +kernel
theorem dX6_byteAt_19 : decode cX6_byteAt 19 = .ok (.aload_n 0, 1) := by decide +kernel
theorem dX6_byteAt_20 : decode cX6_byteAt 20 = .ok (.bipush (-2), 2) := by decide +kernel
theorem dX6_byteAt_22 : decode cX6_byteAt 22 = .ok (.invokevirtual 69, 3) := by decide +kernel
theorem dX6_byteAt_25 : decode cX6_byteAt 25 = .ok (.ireturn, 1) := by decide +kernel
theorem dX6_append_0 : decode cX6_append 0 = .ok (.iload_n 1, 1) := by decide +kernel
theorem dX6_append_1 : decode cX6_append 1 = .ok (.invokestatic 65, 3) := by decide +kernel
theorem dX6_append_4 : decode cX6_append 4 = .ok (.ifCond .ne 10, 3) := by decide +kernel
theorem dX6_append_7 : decode cX6_append 7 = .ok (.aload_n 0, 1) := by decide +kernel
theorem dX6_append_8 : decode cX6_append 8 = .ok (.bipush (-2), 2) := by decide +kernel
theorem dX6_append_10 : decode cX6_append 10 = .ok (.invokevirtual 69, 3) := by decide +kernel
theorem dX6_append_13 : decode cX6_append 13 = .ok (.ireturn, 1) := by decide +kernel
theorem dX6_append_14 : decode cX6_append 14 = .ok (.aload_n 0, 1) := by decide +kernel
theorem dX6_append_15 : decode cX6_append 15 = .ok (.getfield 53, 3) := by decide +kernel
theorem dX6_append_18 : decode cX6_append 18 = .ok (.bipush 8, 2) := by decide +kernel
theorem dX6_append_20 : decode cX6_append 20 = .ok (.if_icmp .lt 10, 3) := by decide +kernel
theorem dX6_append_23 : decode cX6_append 23 = .ok (.aload_n 0, 1) := by decide +kernel
theorem dX6_append_24 : decode cX6_append 24 = .ok (.bipush (-4), 2) := by decide +kernel
theorem dX6_append_26 : decode cX6_append 26 = .ok (.invokevirtual 69, 3) := by decide +kernel
theorem dX6_append_29 : decode cX6_append 29 = .ok (.ireturn, 1) := by decide +kernel
theorem dX6_append_30 : decode cX6_append 30 = .ok (.aload_n 0, 1) := by decide +kernel
theorem dX6_append_31 : decode cX6_append 31 = .ok (.getfield 28, 3) := by decide +kernel
theorem dX6_append_34 : decode cX6_append 34 = .ok (.aload_n 0, 1) := by decide +kernel
theorem dX6_append_35 : decode cX6_append 35 = .ok (.getfield 53, 3) := by decide +kernel
theorem dX6_append_38 : decode cX6_append 38 = .ok (.iload_n 1, 1) := by decide +kernel
theorem dX6_append_39 : decode cX6_append 39 = .ok (.invokevirtual 92, 3) := by decide +kernel
theorem dX6_append_42 : decode cX6_append 42 = .ok (.aload_n 0, 1) := by decide +kernel
theorem dX6_append_43 : decode cX6_append 43 = .ok (.dup, 1) := by decide +kernel
theorem dX6_append_44 : decode cX6_append 44 = .ok (.getfield 53, 3) := by decide +kernel
theorem dX6_append_47 : decode cX6_append 47 = .ok (.iconst 1, 1) := by decide +kernel
theorem dX6_append_48 : decode cX6_append 48 = .ok (.iadd, 1) := by decide +kernel
theorem dX6_append_49 : decode cX6_append 49 = .ok (.putfield 53, 3) := by decide +kernel
theorem dX6_append_52 : decode cX6_append 52 = .ok (.aload_n 0, 1) := by decide +kernel
theorem dX6_append_53 : decode cX6_append 53 = .ok (.getfield 53, 3) := by decide +kernel
theorem dX6_append_56 : decode cX6_append 56 = .ok (.ireturn, 1) := by decide +kernel
theorem dX6_clearPattern_0 : decode cX6_clearPattern 0 = .ok (.aload_n 0, 1) := by decide +kernel
theorem dX6_clearPattern_1 : decode cX6_clearPattern 1 = .ok (.getfield 53, 3) := by decide +kernel
theorem dX6_clearPattern_4 : decode cX6_clearPattern 4 = .ok (.istore_n 1, 1) := by decide +kernel
theorem dX6_clearPattern_5 : decode cX6_clearPattern 5 = .ok (.aload_n 0, 1) := by decide +kernel
theorem dX6_clearPattern_6 : decode cX6_clearPattern 6 = .ok (.iconst 0, 1) := by decide +kernel
theorem dX6_clearPattern_7 : decode cX6_clearPattern 7 = .ok (.putfield 53, 3) := by decide +kernel
theorem dX6_clearPattern_10 : decode cX6_clearPattern 10 = .ok (.iload_n 1, 1) := by decide +kernel
theorem dX6_clearPattern_11 : decode cX6_clearPattern 11 = .ok (.ireturn, 1) := by decide +kernel
theorem dX6_define_0 : decode cX6_define 0 = .ok (.iload_n 1, 1) := by decide +kernel
theorem dX6_define_1 : decode cX6_define 1 = .ok (.invokestatic 95, 3) := by decide +kernel
theorem dX6_define_4 : decode cX6_define 4 = .ok (.ifCond .ne 10, 3) := by decide +kernel
theorem dX6_define_7 : decode cX6_define 7 = .ok (.aload_n 0, 1) := by decide +kernel
theorem dX6_define_8 : decode cX6_define 8 = .ok (.bipush (-2), 2) := by decide +kernel
theorem dX6_define_10 : decode cX6_define 10 = .ok (.invokevirtual 69, 3) := by decide +kernel
theorem dX6_define_13 : decode cX6_define 13 = .ok (.ireturn, 1) := by decide +kernel
theorem dX6_define_14 : decode cX6_define 14 = .ok (.aload_n 0, 1) := by decide +kernel
theorem dX6_define_15 : decode cX6_define 15 = .ok (.getfield 53, 3) := by decide +kernel
theorem dX6_define_18 : decode cX6_define 18 = .ok (.ifCond .eq 17, 3) := by decide +kernel
theorem dX6_define_21 : decode cX6_define 21 = .ok (.aload_n 0, 1) := by decide +kernel
theorem dX6_define_22 : decode cX6_define 22 = .ok (.getfield 28, 3) := by decide +kernel
theorem dX6_define_25 : decode cX6_define 25 = .ok (.iconst 0, 1) := by decide +kernel
theorem dX6_define_26 : decode cX6_define 26 = .ok (.invokevirtual 98, 3) := by decide +kernel
theorem dX6_define_29 : decode cX6_define 29 = .ok (.invokestatic 101, 3) := by decide +kernel
theorem dX6_define_32 : decode cX6_define 32 = .ok (.ifCond .ne 10, 3) := by decide +kernel
theorem dX6_define_35 : decode cX6_define 35 = .ok (.aload_n 0, 1) := by decide +kernel
theorem dX6_define_36 : decode cX6_define 36 = .ok (.bipush (-3), 2) := by decide +kernel
theorem dX6_define_38 : decode cX6_define 38 = .ok (.invokevirtual 69, 3) := by decide +kernel
theorem dX6_define_41 : decode cX6_define 41 = .ok (.ireturn, 1) := by decide +kernel
theorem dX6_define_42 : decode cX6_define 42 = .ok (.aload_n 0, 1) := by decide +kernel
theorem dX6_define_43 : decode cX6_define 43 = .ok (.invokevirtual 73, 3) := by decide +kernel
theorem dX6_define_46 : decode cX6_define 46 = .ok (.aload_n 0, 1) := by decide +kernel
theorem dX6_define_47 : decode cX6_define 47 = .ok (.getfield 12, 3) := by decide +kernel
theorem dX6_define_50 : decode cX6_define 50 = .ok (.iload_n 1, 1) := by decide +kernel
theorem dX6_define_51 : decode cX6_define 51 = .ok (.aload_n 0, 1) := by decide +kernel
theorem dX6_define_52 : decode cX6_define 52 = .ok (.getfield 28, 3) := by decide +kernel
theorem dX6_define_55 : decode cX6_define 55 = .ok (.aload_n 0, 1) := by decide +kernel
theorem dX6_define_56 : decode cX6_define 56 = .ok (.getfield 53, 3) := by decide +kernel
theorem dX6_define_59 : decode cX6_define 59 = .ok (.invokevirtual 104, 3) := by decide +kernel
theorem dX6_define_62 : decode cX6_define 62 = .ok (.aload_n 0, 1) := by decide +kernel
theorem dX6_define_63 : decode cX6_define 63 = .ok (.getfield 53, 3) := by decide +kernel
theorem dX6_define_66 : decode cX6_define 66 = .ok (.ireturn, 1) := by decide +kernel
theorem dX6_undefine_0 : decode cX6_undefine 0 = .ok (.iload_n 1, 1) := by decide +kernel
theorem dX6_undefine_1 : decode cX6_undefine 1 = .ok (.invokestatic 95, 3) := by decide +kernel
theorem dX6_undefine_4 : decode cX6_undefine 4 = .ok (.ifCond .ne 10, 3) := by decide +kernel
theorem dX6_undefine_7 : decode cX6_undefine 7 = .ok (.aload_n 0, 1) := by decide +kernel
theorem dX6_undefine_8 : decode cX6_undefine 8 = .ok (.bipush (-2), 2) := by decide +kernel
theorem dX6_undefine_10 : decode cX6_undefine 10 = .ok (.invokevirtual 69, 3) := by decide +kernel
theorem dX6_undefine_13 : decode cX6_undefine 13 = .ok (.ireturn, 1) := by decide +kernel
theorem dX6_undefine_14 : decode cX6_undefine 14 = .ok (.aload_n 0, 1) := by decide +kernel
theorem dX6_undefine_15 : decode cX6_undefine 15 = .ok (.getfield 12, 3) := by decide +kernel
theorem dX6_undefine_18 : decode cX6_undefine 18 = .ok (.iload_n 1, 1) := by decide +kernel
theorem dX6_undefine_19 : decode cX6_undefine 19 = .ok (.invokevirtual 108, 3) := by decide +kernel
theorem dX6_undefine_22 : decode cX6_undefine 22 = .ok (.istore_n 2, 1) := by decide +kernel
theorem dX6_undefine_23 : decode cX6_undefine 23 = .ok (.aload_n 0, 1) := by decide +kernel
theorem dX6_undefine_24 : decode cX6_undefine 24 = .ok (.invokevirtual 73, 3) := by decide +kernel
theorem dX6_undefine_27 : decode cX6_undefine 27 = .ok (.aload_n 0, 1) := by decide +kernel
theorem dX6_undefine_28 : decode cX6_undefine 28 = .ok (.getfield 12, 3) := by decide +kernel
theorem dX6_undefine_31 : decode cX6_undefine 31 = .ok (.iload_n 1, 1) := by decide +kernel
theorem dX6_undefine_32 : decode cX6_undefine 32 = .ok (.aload_n 0, 1) := by decide +kernel
theorem dX6_undefine_33 : decode cX6_undefine 33 = .ok (.getfield 28, 3) := by decide +kernel
theorem dX6_undefine_36 : decode cX6_undefine 36 = .ok (.iconst 0, 1) := by decide +kernel
theorem dX6_undefine_37 : decode cX6_undefine 37 = .ok (.invokevirtual 104, 3) := by decide +kernel
theorem dX6_undefine_40 : decode cX6_undefine 40 = .ok (.iload_n 2, 1) := by decide +kernel
theorem dX6_undefine_41 : decode cX6_undefine 41 = .ok (.ireturn, 1) := by decide +kernel
theorem dX6_setStop_0 : decode cX6_setStop 0 = .ok (.iload_n 1, 1) := by decide +kernel
theorem dX6_setStop_1 : decode cX6_setStop 1 = .ok (.invokestatic 95, 3) := by decide +kernel
theorem dX6_setStop_4 : decode cX6_setStop 4 = .ok (.ifCond .eq 15, 3) := by decide +kernel
theorem dX6_setStop_7 : decode cX6_setStop 7 = .ok (.iload_n 2, 1) := by decide +kernel
theorem dX6_setStop_8 : decode cX6_setStop 8 = .ok (.iconst (-1), 1) := by decide +kernel
theorem dX6_setStop_9 : decode cX6_setStop 9 = .ok (.if_icmp .eq 17, 3) := by decide +kernel
theorem dX6_setStop_12 : decode cX6_setStop 12 = .ok (.iload_n 2, 1) := by decide +kernel
theorem dX6_setStop_13 : decode cX6_setStop 13 = .ok (.invokestatic 65, 3) := by decide +kernel
theorem dX6_setStop_16 : decode cX6_setStop 16 = .ok (.ifCond .ne 10, 3) := by decide +kernel
theorem dX6_setStop_19 : decode cX6_setStop 19 = .ok (.aload_n 0, 1) := by decide +kernel
theorem dX6_setStop_20 : decode cX6_setStop 20 = .ok (.bipush (-2), 2) := by decide +kernel
theorem dX6_setStop_22 : decode cX6_setStop 22 = .ok (.invokevirtual 69, 3) := by decide +kernel
theorem dX6_setStop_25 : decode cX6_setStop 25 = .ok (.ireturn, 1) := by decide +kernel
theorem dX6_setStop_26 : decode cX6_setStop 26 = .ok (.aload_n 0, 1) := by decide +kernel
theorem dX6_setStop_27 : decode cX6_setStop 27 = .ok (.getfield 12, 3) := by decide +kernel
theorem dX6_setStop_30 : decode cX6_setStop 30 = .ok (.iload_n 1, 1) := by decide +kernel
theorem dX6_setStop_31 : decode cX6_setStop 31 = .ok (.invokevirtual 111, 3) := by decide +kernel
theorem dX6_setStop_34 : decode cX6_setStop 34 = .ok (.istore_n 3, 1) := by decide +kernel
theorem dX6_setStop_35 : decode cX6_setStop 35 = .ok (.aload_n 0, 1) := by decide +kernel
theorem dX6_setStop_36 : decode cX6_setStop 36 = .ok (.invokevirtual 73, 3) := by decide +kernel
theorem dX6_setStop_39 : decode cX6_setStop 39 = .ok (.aload_n 0, 1) := by decide +kernel
theorem dX6_setStop_40 : decode cX6_setStop 40 = .ok (.getfield 12, 3) := by decide +kernel
theorem dX6_setStop_43 : decode cX6_setStop 43 = .ok (.iload_n 1, 1) := by decide +kernel
theorem dX6_setStop_44 : decode cX6_setStop 44 = .ok (.iload_n 2, 1) := by decide +kernel
theorem dX6_setStop_45 : decode cX6_setStop 45 = .ok (.invokevirtual 114, 3) := by decide +kernel
theorem dX6_setStop_48 : decode cX6_setStop 48 = .ok (.iload_n 3, 1) := by decide +kernel
theorem dX6_setStop_49 : decode cX6_setStop 49 = .ok (.ireturn, 1) := by decide +kernel
theorem dX6_element_0 : decode cX6_element 0 = .ok (.iload_n 1, 1) := by decide +kernel
theorem dX6_element_1 : decode cX6_element 1 = .ok (.invokestatic 95, 3) := by decide +kernel
theorem dX6_element_4 : decode cX6_element 4 = .ok (.ifCond .eq 7, 3) := by decide +kernel
theorem dX6_element_7 : decode cX6_element 7 = .ok (.iload_n 2, 1) := by decide +kernel
theorem dX6_element_8 : decode cX6_element 8 = .ok (.ifCond .ge 10, 3) := by decide +kernel
theorem dX6_element_11 : decode cX6_element 11 = .ok (.aload_n 0, 1) := by decide +kernel
theorem dX6_element_12 : decode cX6_element 12 = .ok (.bipush (-2), 2) := by decide +kernel
theorem dX6_element_14 : decode cX6_element 14 = .ok (.invokevirtual 69, 3) := by decide +kernel
theorem dX6_element_17 : decode cX6_element 17 = .ok (.ireturn, 1) := by decide +kernel
theorem dX6_element_18 : decode cX6_element 18 = .ok (.iload_n 2, 1) := by decide +kernel
theorem dX6_element_19 : decode cX6_element 19 = .ok (.aload_n 0, 1) := by decide +kernel
theorem dX6_element_20 : decode cX6_element 20 = .ok (.getfield 12, 3) := by decide +kernel
theorem dX6_element_23 : decode cX6_element 23 = .ok (.iload_n 1, 1) := by decide +kernel
theorem dX6_element_24 : decode cX6_element 24 = .ok (.invokevirtual 108, 3) := by decide +kernel
theorem dX6_element_27 : decode cX6_element 27 = .ok (.if_icmp .ge 15, 3) := by decide +kernel
theorem dX6_element_30 : decode cX6_element 30 = .ok (.aload_n 0, 1) := by decide +kernel
theorem dX6_element_31 : decode cX6_element 31 = .ok (.getfield 12, 3) := by decide +kernel
theorem dX6_element_34 : decode cX6_element 34 = .ok (.iload_n 1, 1) := by decide +kernel
theorem dX6_element_35 : decode cX6_element 35 = .ok (.iload_n 2, 1) := by decide +kernel
theorem dX6_element_36 : decode cX6_element 36 = .ok (.invokevirtual 117, 3) := by decide +kernel
theorem dX6_element_39 : decode cX6_element 39 = .ok (.goto 4, 3) := by decide +kernel
theorem dX6_element_42 : decode cX6_element 42 = .ok (.iconst (-1), 1) := by decide +kernel
theorem dX6_element_43 : decode cX6_element 43 = .ok (.ireturn, 1) := by decide +kernel
theorem dX6_matchEnd_0 : decode cX6_matchEnd 0 = .ok (.iload_n 1, 1) := by decide +kernel
theorem dX6_matchEnd_1 : decode cX6_matchEnd 1 = .ok (.invokestatic 95, 3) := by decide +kernel
theorem dX6_matchEnd_4 : decode cX6_matchEnd 4 = .ok (.ifCond .eq 18, 3) := by decide +kernel
theorem dX6_matchEnd_7 : decode cX6_matchEnd 7 = .ok (.iload_n 2, 1) := by decide +kernel
theorem dX6_matchEnd_8 : decode cX6_matchEnd 8 = .ok (.ifCond .lt 14, 3) := by decide +kernel
theorem dX6_matchEnd_11 : decode cX6_matchEnd 11 = .ok (.iload_n 2, 1) := by decide +kernel
theorem dX6_matchEnd_12 : decode cX6_matchEnd 12 = .ok (.aload_n 0, 1) := by decide +kernel
theorem dX6_matchEnd_13 : decode cX6_matchEnd 13 = .ok (.getfield 12, 3) := by decide +kernel
theorem dX6_matchEnd_16 : decode cX6_matchEnd 16 = .ok (.invokevirtual 61, 3) := by decide +kernel
theorem dX6_matchEnd_19 : decode cX6_matchEnd 19 = .ok (.if_icmp .le 10, 3) := by decide +kernel
theorem dX6_matchEnd_22 : decode cX6_matchEnd 22 = .ok (.aload_n 0, 1) := by decide +kernel
theorem dX6_matchEnd_23 : decode cX6_matchEnd 23 = .ok (.bipush (-2), 2) := by decide +kernel
theorem dX6_matchEnd_25 : decode cX6_matchEnd 25 = .ok (.invokevirtual 69, 3) := by decide +kernel
theorem dX6_matchEnd_28 : decode cX6_matchEnd 28 = .ok (.ireturn, 1) := by decide +kernel
theorem dX6_matchEnd_29 : decode cX6_matchEnd 29 = .ok (.aload_n 0, 1) := by decide +kernel
theorem dX6_matchEnd_30 : decode cX6_matchEnd 30 = .ok (.invokevirtual 121, 3) := by decide +kernel
theorem dX6_matchEnd_33 : decode cX6_matchEnd 33 = .ok (.aload_n 0, 1) := by decide +kernel
theorem dX6_matchEnd_34 : decode cX6_matchEnd 34 = .ok (.getfield 40, 3) := by decide +kernel
theorem dX6_matchEnd_37 : decode cX6_matchEnd 37 = .ok (.iload_n 1, 1) := by decide +kernel
theorem dX6_matchEnd_38 : decode cX6_matchEnd 38 = .ok (.iload_n 2, 1) := by decide +kernel
theorem dX6_matchEnd_39 : decode cX6_matchEnd 39 = .ok (.invokevirtual 124, 3) := by decide +kernel
theorem dX6_matchEnd_42 : decode cX6_matchEnd 42 = .ok (.ireturn, 1) := by decide +kernel
theorem dX6_nodeCount_0 : decode cX6_nodeCount 0 = .ok (.aload_n 0, 1) := by decide +kernel
theorem dX6_nodeCount_1 : decode cX6_nodeCount 1 = .ok (.invokevirtual 121, 3) := by decide +kernel
theorem dX6_nodeCount_4 : decode cX6_nodeCount 4 = .ok (.aload_n 0, 1) := by decide +kernel
theorem dX6_nodeCount_5 : decode cX6_nodeCount 5 = .ok (.getfield 49, 3) := by decide +kernel
theorem dX6_nodeCount_8 : decode cX6_nodeCount 8 = .ok (.invokevirtual 127, 3) := by decide +kernel
theorem dX6_nodeCount_11 : decode cX6_nodeCount 11 = .ok (.ireturn, 1) := by decide +kernel
theorem dX6_islandCount_0 : decode cX6_islandCount 0 = .ok (.aload_n 0, 1) := by decide +kernel
theorem dX6_islandCount_1 : decode cX6_islandCount 1 = .ok (.invokevirtual 121, 3) := by decide +kernel
theorem dX6_islandCount_4 : decode cX6_islandCount 4 = .ok (.aload_n 0, 1) := by decide +kernel
theorem dX6_islandCount_5 : decode cX6_islandCount 5 = .ok (.getfield 49, 3) := by decide +kernel
theorem dX6_islandCount_8 : decode cX6_islandCount 8 = .ok (.invokevirtual 130, 3) := by decide +kernel
theorem dX6_islandCount_11 : decode cX6_islandCount 11 = .ok (.ireturn, 1) := by decide +kernel
theorem dX6_nodeRule_0 : decode cX6_nodeRule 0 = .ok (.aload_n 0, 1) := by decide +kernel
theorem dX6_nodeRule_1 : decode cX6_nodeRule 1 = .ok (.invokevirtual 121, 3) := by decide +kernel
theorem dX6_nodeRule_4 : decode cX6_nodeRule 4 = .ok (.aload_n 0, 1) := by decide +kernel
theorem dX6_nodeRule_5 : decode cX6_nodeRule 5 = .ok (.getfield 49, 3) := by decide +kernel
theorem dX6_nodeRule_8 : decode cX6_nodeRule 8 = .ok (.iload_n 1, 1) := by decide +kernel
theorem dX6_nodeRule_9 : decode cX6_nodeRule 9 = .ok (.invokevirtual 133, 3) := by decide +kernel
theorem dX6_nodeRule_12 : decode cX6_nodeRule 12 = .ok (.ifCond .eq 14, 3) := by decide +kernel
theorem dX6_nodeRule_15 : decode cX6_nodeRule 15 = .ok (.aload_n 0, 1) := by decide +kernel
theorem dX6_nodeRule_16 : decode cX6_nodeRule 16 = .ok (.getfield 49, 3) := by decide +kernel
theorem dX6_nodeRule_19 : decode cX6_nodeRule 19 = .ok (.iload_n 1, 1) := by decide +kernel
theorem dX6_nodeRule_20 : decode cX6_nodeRule 20 = .ok (.invokevirtual 136, 3) := by decide +kernel
theorem dX6_nodeRule_23 : decode cX6_nodeRule 23 = .ok (.goto 9, 3) := by decide +kernel
theorem dX6_nodeRule_26 : decode cX6_nodeRule 26 = .ok (.aload_n 0, 1) := by decide +kernel
theorem dX6_nodeRule_27 : decode cX6_nodeRule 27 = .ok (.bipush (-2), 2) := by decide +kernel
theorem dX6_nodeRule_29 : decode cX6_nodeRule 29 = .ok (.invokevirtual 69, 3) := by decide +kernel
theorem dX6_nodeRule_32 : decode cX6_nodeRule 32 = .ok (.ireturn, 1) := by decide +kernel
theorem dX6_nodeStart_0 : decode cX6_nodeStart 0 = .ok (.aload_n 0, 1) := by decide +kernel
theorem dX6_nodeStart_1 : decode cX6_nodeStart 1 = .ok (.invokevirtual 121, 3) := by decide +kernel
theorem dX6_nodeStart_4 : decode cX6_nodeStart 4 = .ok (.aload_n 0, 1) := by decide +kernel
theorem dX6_nodeStart_5 : decode cX6_nodeStart 5 = .ok (.getfield 49, 3) := by decide +kernel
theorem dX6_nodeStart_8 : decode cX6_nodeStart 8 = .ok (.iload_n 1, 1) := by decide +kernel
theorem dX6_nodeStart_9 : decode cX6_nodeStart 9 = .ok (.invokevirtual 133, 3) := by decide +kernel
theorem dX6_nodeStart_12 : decode cX6_nodeStart 12 = .ok (.ifCond .eq 14, 3) := by decide +kernel
theorem dX6_nodeStart_15 : decode cX6_nodeStart 15 = .ok (.aload_n 0, 1) := by decide +kernel
theorem dX6_nodeStart_16 : decode cX6_nodeStart 16 = .ok (.getfield 49, 3) := by decide +kernel
theorem dX6_nodeStart_19 : decode cX6_nodeStart 19 = .ok (.iload_n 1, 1) := by decide +kernel
theorem dX6_nodeStart_20 : decode cX6_nodeStart 20 = .ok (.invokevirtual 139, 3) := by decide +kernel
theorem dX6_nodeStart_23 : decode cX6_nodeStart 23 = .ok (.goto 9, 3) := by decide +kernel
theorem dX6_nodeStart_26 : decode cX6_nodeStart 26 = .ok (.aload_n 0, 1) := by decide +kernel
theorem dX6_nodeStart_27 : decode cX6_nodeStart 27 = .ok (.bipush (-2), 2) := by decide +kernel
theorem dX6_nodeStart_29 : decode cX6_nodeStart 29 = .ok (.invokevirtual 69, 3) := by decide +kernel
theorem dX6_nodeStart_32 : decode cX6_nodeStart 32 = .ok (.ireturn, 1) := by decide +kernel
theorem dX6_nodeEnd_0 : decode cX6_nodeEnd 0 = .ok (.aload_n 0, 1) := by decide +kernel
theorem dX6_nodeEnd_1 : decode cX6_nodeEnd 1 = .ok (.invokevirtual 121, 3) := by decide +kernel
theorem dX6_nodeEnd_4 : decode cX6_nodeEnd 4 = .ok (.aload_n 0, 1) := by decide +kernel
theorem dX6_nodeEnd_5 : decode cX6_nodeEnd 5 = .ok (.getfield 49, 3) := by decide +kernel
theorem dX6_nodeEnd_8 : decode cX6_nodeEnd 8 = .ok (.iload_n 1, 1) := by decide +kernel
theorem dX6_nodeEnd_9 : decode cX6_nodeEnd 9 = .ok (.invokevirtual 133, 3) := by decide +kernel
theorem dX6_nodeEnd_12 : decode cX6_nodeEnd 12 = .ok (.ifCond .eq 14, 3) := by decide +kernel
theorem dX6_nodeEnd_15 : decode cX6_nodeEnd 15 = .ok (.aload_n 0, 1) := by decide +kernel
theorem dX6_nodeEnd_16 : decode cX6_nodeEnd 16 = .ok (.getfield 49, 3) := by decide +kernel
theorem dX6_nodeEnd_19 : decode cX6_nodeEnd 19 = .ok (.iload_n 1, 1) := by decide +kernel
theorem dX6_nodeEnd_20 : decode cX6_nodeEnd 20 = .ok (.invokevirtual 142, 3) := by decide +kernel
theorem dX6_nodeEnd_23 : decode cX6_nodeEnd 23 = .ok (.goto 9, 3) := by decide +kernel
theorem dX6_nodeEnd_26 : decode cX6_nodeEnd 26 = .ok (.aload_n 0, 1) := by decide +kernel
theorem dX6_nodeEnd_27 : decode cX6_nodeEnd 27 = .ok (.bipush (-2), 2) := by decide +kernel
theorem dX6_nodeEnd_29 : decode cX6_nodeEnd 29 = .ok (.invokevirtual 69, 3) := by decide +kernel
theorem dX6_nodeEnd_32 : decode cX6_nodeEnd 32 = .ok (.ireturn, 1) := by decide +kernel
theorem dX6_nodeParent_0 : decode cX6_nodeParent 0 = .ok (.aload_n 0, 1) := by decide +kernel
theorem dX6_nodeParent_1 : decode cX6_nodeParent 1 = .ok (.invokevirtual 121, 3) := by decide +kernel
theorem dX6_nodeParent_4 : decode cX6_nodeParent 4 = .ok (.aload_n 0, 1) := by decide +kernel
theorem dX6_nodeParent_5 : decode cX6_nodeParent 5 = .ok (.getfield 49, 3) := by decide +kernel
theorem dX6_nodeParent_8 : decode cX6_nodeParent 8 = .ok (.iload_n 1, 1) := by decide +kernel
theorem dX6_nodeParent_9 : decode cX6_nodeParent 9 = .ok (.invokevirtual 133, 3) := by decide +kernel
theorem dX6_nodeParent_12 : decode cX6_nodeParent 12 = .ok (.ifCond .eq 14, 3) := by decide +kernel
theorem dX6_nodeParent_15 : decode cX6_nodeParent 15 = .ok (.aload_n 0, 1) := by decide +kernel
theorem dX6_nodeParent_16 : decode cX6_nodeParent 16 = .ok (.getfield 49, 3) := by decide +kernel
theorem dX6_nodeParent_19 : decode cX6_nodeParent 19 = .ok (.iload_n 1, 1) := by decide +kernel
theorem dX6_nodeParent_20 : decode cX6_nodeParent 20 = .ok (.invokevirtual 145, 3) := by decide +kernel
theorem dX6_nodeParent_23 : decode cX6_nodeParent 23 = .ok (.goto 9, 3) := by decide +kernel
theorem dX6_nodeParent_26 : decode cX6_nodeParent 26 = .ok (.aload_n 0, 1) := by decide +kernel
theorem dX6_nodeParent_27 : decode cX6_nodeParent 27 = .ok (.bipush (-2), 2) := by decide +kernel
theorem dX6_nodeParent_29 : decode cX6_nodeParent 29 = .ok (.invokevirtual 69, 3) := by decide +kernel
theorem dX6_nodeParent_32 : decode cX6_nodeParent 32 = .ok (.ireturn, 1) := by decide +kernel
theorem dX6_nodeDepth_0 : decode cX6_nodeDepth 0 = .ok (.aload_n 0, 1) := by decide +kernel
theorem dX6_nodeDepth_1 : decode cX6_nodeDepth 1 = .ok (.invokevirtual 121, 3) := by decide +kernel
theorem dX6_nodeDepth_4 : decode cX6_nodeDepth 4 = .ok (.aload_n 0, 1) := by decide +kernel
theorem dX6_nodeDepth_5 : decode cX6_nodeDepth 5 = .ok (.getfield 49, 3) := by decide +kernel
theorem dX6_nodeDepth_8 : decode cX6_nodeDepth 8 = .ok (.iload_n 1, 1) := by decide +kernel
theorem dX6_nodeDepth_9 : decode cX6_nodeDepth 9 = .ok (.invokevirtual 133, 3) := by decide +kernel
theorem dX6_nodeDepth_12 : decode cX6_nodeDepth 12 = .ok (.ifCond .eq 14, 3) := by decide +kernel
theorem dX6_nodeDepth_15 : decode cX6_nodeDepth 15 = .ok (.aload_n 0, 1) := by decide +kernel
theorem dX6_nodeDepth_16 : decode cX6_nodeDepth 16 = .ok (.getfield 49, 3) := by decide +kernel
theorem dX6_nodeDepth_19 : decode cX6_nodeDepth 19 = .ok (.iload_n 1, 1) := by decide +kernel
theorem dX6_nodeDepth_20 : decode cX6_nodeDepth 20 = .ok (.invokevirtual 148, 3) := by decide +kernel
theorem dX6_nodeDepth_23 : decode cX6_nodeDepth 23 = .ok (.goto 9, 3) := by decide +kernel
theorem dX6_nodeDepth_26 : decode cX6_nodeDepth 26 = .ok (.aload_n 0, 1) := by decide +kernel
theorem dX6_nodeDepth_27 : decode cX6_nodeDepth 27 = .ok (.bipush (-2), 2) := by decide +kernel
theorem dX6_nodeDepth_29 : decode cX6_nodeDepth 29 = .ok (.invokevirtual 69, 3) := by decide +kernel
theorem dX6_nodeDepth_32 : decode cX6_nodeDepth 32 = .ok (.ireturn, 1) := by decide +kernel
theorem dX6_nodeWater_0 : decode cX6_nodeWater 0 = .ok (.aload_n 0, 1) := by decide +kernel
theorem dX6_nodeWater_1 : decode cX6_nodeWater 1 = .ok (.invokevirtual 121, 3) := by decide +kernel
theorem dX6_nodeWater_4 : decode cX6_nodeWater 4 = .ok (.aload_n 0, 1) := by decide +kernel
theorem dX6_nodeWater_5 : decode cX6_nodeWater 5 = .ok (.getfield 49, 3) := by decide +kernel
theorem dX6_nodeWater_8 : decode cX6_nodeWater 8 = .ok (.iload_n 1, 1) := by decide +kernel
theorem dX6_nodeWater_9 : decode cX6_nodeWater 9 = .ok (.invokevirtual 133, 3) := by decide +kernel
theorem dX6_nodeWater_12 : decode cX6_nodeWater 12 = .ok (.ifCond .eq 14, 3) := by decide +kernel
theorem dX6_nodeWater_15 : decode cX6_nodeWater 15 = .ok (.aload_n 0, 1) := by decide +kernel
theorem dX6_nodeWater_16 : decode cX6_nodeWater 16 = .ok (.getfield 49, 3) := by decide +kernel
theorem dX6_nodeWater_19 : decode cX6_nodeWater 19 = .ok (.iload_n 1, 1) := by decide +kernel
theorem dX6_nodeWater_20 : decode cX6_nodeWater 20 = .ok (.invokevirtual 151, 3) := by decide +kernel
theorem dX6_nodeWater_23 : decode cX6_nodeWater 23 = .ok (.goto 9, 3) := by decide +kernel
theorem dX6_nodeWater_26 : decode cX6_nodeWater 26 = .ok (.aload_n 0, 1) := by decide +kernel
theorem dX6_nodeWater_27 : decode cX6_nodeWater 27 = .ok (.bipush (-2), 2) := by decide +kernel
theorem dX6_nodeWater_29 : decode cX6_nodeWater 29 = .ok (.invokevirtual 69, 3) := by decide +kernel
theorem dX6_nodeWater_32 : decode cX6_nodeWater 32 = .ok (.ireturn, 1) := by decide +kernel
theorem dX6_nodeNumber_0 : decode cX6_nodeNumber 0 = .ok (.aload_n 0, 1) := by decide +kernel
theorem dX6_nodeNumber_1 : decode cX6_nodeNumber 1 = .ok (.invokevirtual 121, 3) := by decide +kernel
theorem dX6_nodeNumber_4 : decode cX6_nodeNumber 4 = .ok (.aload_n 0, 1) := by decide +kernel
theorem dX6_nodeNumber_5 : decode cX6_nodeNumber 5 = .ok (.getfield 49, 3) := by decide +kernel
theorem dX6_nodeNumber_8 : decode cX6_nodeNumber 8 = .ok (.iload_n 1, 1) := by decide +kernel
theorem dX6_nodeNumber_9 : decode cX6_nodeNumber 9 = .ok (.invokevirtual 133, 3) := by decide +kernel
theorem dX6_nodeNumber_12 : decode cX6_nodeNumber 12 = .ok (.ifCond .eq 14, 3) := by decide +kernel
theorem dX6_nodeNumber_15 : decode cX6_nodeNumber 15 = .ok (.aload_n 0, 1) := by decide +kernel
theorem dX6_nodeNumber_16 : decode cX6_nodeNumber 16 = .ok (.getfield 49, 3) := by decide +kernel
theorem dX6_nodeNumber_19 : decode cX6_nodeNumber 19 = .ok (.iload_n 1, 1) := by decide +kernel
theorem dX6_nodeNumber_20 : decode cX6_nodeNumber 20 = .ok (.invokevirtual 154, 3) := by decide +kernel
theorem dX6_nodeNumber_23 : decode cX6_nodeNumber 23 = .ok (.goto 9, 3) := by decide +kernel
theorem dX6_nodeNumber_26 : decode cX6_nodeNumber 26 = .ok (.aload_n 0, 1) := by decide +kernel
theorem dX6_nodeNumber_27 : decode cX6_nodeNumber 27 = .ok (.bipush (-2), 2) := by decide +kernel
theorem dX6_nodeNumber_29 : decode cX6_nodeNumber 29 = .ok (.invokevirtual 69, 3) := by decide +kernel
theorem dX6_nodeNumber_32 : decode cX6_nodeNumber 32 = .ok (.ireturn, 1) := by decide +kernel
theorem dX6_nodeAt_0 : decode cX6_nodeAt 0 = .ok (.aload_n 0, 1) := by decide +kernel
theorem dX6_nodeAt_1 : decode cX6_nodeAt 1 = .ok (.iload_n 1, 1) := by decide +kernel
theorem dX6_nodeAt_2 : decode cX6_nodeAt 2 = .ok (.invokevirtual 80, 3) := by decide +kernel
theorem dX6_nodeAt_5 : decode cX6_nodeAt 5 = .ok (.ifCond .ne 10, 3) := by decide +kernel
theorem dX6_nodeAt_8 : decode cX6_nodeAt 8 = .ok (.aload_n 0, 1) := by decide +kernel
theorem dX6_nodeAt_9 : decode cX6_nodeAt 9 = .ok (.bipush (-2), 2) := by decide +kernel
theorem dX6_nodeAt_11 : decode cX6_nodeAt 11 = .ok (.invokevirtual 69, 3) := by decide +kernel
theorem dX6_nodeAt_14 : decode cX6_nodeAt 14 = .ok (.ireturn, 1) := by decide +kernel
theorem dX6_nodeAt_15 : decode cX6_nodeAt 15 = .ok (.aload_n 0, 1) := by decide +kernel
theorem dX6_nodeAt_16 : decode cX6_nodeAt 16 = .ok (.invokevirtual 121, 3) := by decide +kernel
theorem dX6_nodeAt_19 : decode cX6_nodeAt 19 = .ok (.aload_n 0, 1) := by decide +kernel
theorem dX6_nodeAt_20 : decode cX6_nodeAt 20 = .ok (.getfield 49, 3) := by decide +kernel
theorem dX6_nodeAt_23 : decode cX6_nodeAt 23 = .ok (.iload_n 1, 1) := by decide +kernel
theorem dX6_nodeAt_24 : decode cX6_nodeAt 24 = .ok (.invokevirtual 157, 3) := by decide +kernel
theorem dX6_nodeAt_27 : decode cX6_nodeAt 27 = .ok (.ireturn, 1) := by decide +kernel
theorem dX6_waterLength_0 : decode cX6_waterLength 0 = .ok (.aload_n 0, 1) := by decide +kernel
theorem dX6_waterLength_1 : decode cX6_waterLength 1 = .ok (.invokevirtual 121, 3) := by decide +kernel
theorem dX6_waterLength_4 : decode cX6_waterLength 4 = .ok (.aload_n 0, 1) := by decide +kernel
theorem dX6_waterLength_5 : decode cX6_waterLength 5 = .ok (.getfield 49, 3) := by decide +kernel
theorem dX6_waterLength_8 : decode cX6_waterLength 8 = .ok (.invokevirtual 160, 3) := by decide +kernel
theorem dX6_waterLength_11 : decode cX6_waterLength 11 = .ok (.ireturn, 1) := by decide +kernel
theorem dX6_longestWater_0 : decode cX6_longestWater 0 = .ok (.aload_n 0, 1) := by decide +kernel
theorem dX6_longestWater_1 : decode cX6_longestWater 1 = .ok (.invokevirtual 121, 3) := by decide +kernel
theorem dX6_longestWater_4 : decode cX6_longestWater 4 = .ok (.aload_n 0, 1) := by decide +kernel
theorem dX6_longestWater_5 : decode cX6_longestWater 5 = .ok (.getfield 49, 3) := by decide +kernel
theorem dX6_longestWater_8 : decode cX6_longestWater 8 = .ok (.invokevirtual 163, 3) := by decide +kernel
theorem dX6_longestWater_11 : decode cX6_longestWater 11 = .ok (.ireturn, 1) := by decide +kernel
theorem dX6_countOf_0 : decode cX6_countOf 0 = .ok (.iload_n 1, 1) := by decide +kernel
theorem dX6_countOf_1 : decode cX6_countOf 1 = .ok (.invokestatic 95, 3) := by decide +kernel
theorem dX6_countOf_4 : decode cX6_countOf 4 = .ok (.ifCond .ne 10, 3) := by decide +kernel
theorem dX6_countOf_7 : decode cX6_countOf 7 = .ok (.aload_n 0, 1) := by decide +kernel
theorem dX6_countOf_8 : decode cX6_countOf 8 = .ok (.bipush (-2), 2) := by decide +kernel
theorem dX6_countOf_10 : decode cX6_countOf 10 = .ok (.invokevirtual 69, 3) := by decide +kernel
theorem dX6_countOf_13 : decode cX6_countOf 13 = .ok (.ireturn, 1) := by decide +kernel
theorem dX6_countOf_14 : decode cX6_countOf 14 = .ok (.aload_n 0, 1) := by decide +kernel
theorem dX6_countOf_15 : decode cX6_countOf 15 = .ok (.invokevirtual 121, 3) := by decide +kernel
theorem dX6_countOf_18 : decode cX6_countOf 18 = .ok (.aload_n 0, 1) := by decide +kernel
theorem dX6_countOf_19 : decode cX6_countOf 19 = .ok (.getfield 49, 3) := by decide +kernel
theorem dX6_countOf_22 : decode cX6_countOf 22 = .ok (.iload_n 1, 1) := by decide +kernel
theorem dX6_countOf_23 : decode cX6_countOf 23 = .ok (.invokevirtual 166, 3) := by decide +kernel
theorem dX6_countOf_26 : decode cX6_countOf 26 = .ok (.ireturn, 1) := by decide +kernel
theorem dX6_undo_0 : decode cX6_undo 0 = .ok (.aload_n 0, 1) := by decide +kernel
theorem dX6_undo_1 : decode cX6_undo 1 = .ok (.getfield 19, 3) := by decide +kernel
theorem dX6_undo_4 : decode cX6_undo 4 = .ok (.invokevirtual 169, 3) := by decide +kernel
theorem dX6_undo_7 : decode cX6_undo 7 = .ok (.ifCond .ne 10, 3) := by decide +kernel
theorem dX6_undo_10 : decode cX6_undo 10 = .ok (.aload_n 0, 1) := by decide +kernel
theorem dX6_undo_11 : decode cX6_undo 11 = .ok (.bipush (-3), 2) := by decide +kernel
theorem dX6_undo_13 : decode cX6_undo 13 = .ok (.invokevirtual 69, 3) := by decide +kernel
theorem dX6_undo_16 : decode cX6_undo 16 = .ok (.ireturn, 1) := by decide +kernel
theorem dX6_undo_17 : decode cX6_undo 17 = .ok (.aload_n 0, 1) := by decide +kernel
theorem dX6_undo_18 : decode cX6_undo 18 = .ok (.getfield 19, 3) := by decide +kernel
theorem dX6_undo_21 : decode cX6_undo 21 = .ok (.aload_n 0, 1) := by decide +kernel
theorem dX6_undo_22 : decode cX6_undo 22 = .ok (.getfield 12, 3) := by decide +kernel
theorem dX6_undo_25 : decode cX6_undo 25 = .ok (.invokevirtual 172, 3) := by decide +kernel
theorem dX6_undo_28 : decode cX6_undo 28 = .ok (.aload_n 0, 1) := by decide +kernel
theorem dX6_undo_29 : decode cX6_undo 29 = .ok (.iconst 1, 1) := by decide +kernel
theorem dX6_undo_30 : decode cX6_undo 30 = .ok (.putfield 57, 3) := by decide +kernel
theorem dX6_undo_33 : decode cX6_undo 33 = .ok (.aload_n 0, 1) := by decide +kernel
theorem dX6_undo_34 : decode cX6_undo 34 = .ok (.getfield 19, 3) := by decide +kernel
theorem dX6_undo_37 : decode cX6_undo 37 = .ok (.invokevirtual 169, 3) := by decide +kernel
theorem dX6_undo_40 : decode cX6_undo 40 = .ok (.ireturn, 1) := by decide +kernel
theorem dX6_errorCount_0 : decode cX6_errorCount 0 = .ok (.iload_n 1, 1) := by decide +kernel
theorem dX6_errorCount_1 : decode cX6_errorCount 1 = .ok (.ifCond .lt 19, 3) := by decide +kernel
theorem dX6_errorCount_4 : decode cX6_errorCount 4 = .ok (.iload_n 1, 1) := by decide +kernel
theorem dX6_errorCount_5 : decode cX6_errorCount 5 = .ok (.iconst 3, 1) := by decide +kernel
theorem dX6_errorCount_6 : decode cX6_errorCount 6 = .ok (.if_icmp .ge 14, 3) := by decide +kernel
theorem dX6_errorCount_9 : decode cX6_errorCount 9 = .ok (.aload_n 0, 1) := by decide +kernel
theorem dX6_errorCount_10 : decode cX6_errorCount 10 = .ok (.getfield 32, 3) := by decide +kernel
theorem dX6_errorCount_13 : decode cX6_errorCount 13 = .ok (.iload_n 1, 1) := by decide +kernel
theorem dX6_errorCount_14 : decode cX6_errorCount 14 = .ok (.invokevirtual 98, 3) := by decide +kernel
theorem dX6_errorCount_17 : decode cX6_errorCount 17 = .ok (.goto 9, 3) := by decide +kernel
theorem dX6_errorCount_20 : decode cX6_errorCount 20 = .ok (.aload_n 0, 1) := by decide +kernel
theorem dX6_errorCount_21 : decode cX6_errorCount 21 = .ok (.bipush (-2), 2) := by decide +kernel
theorem dX6_errorCount_23 : decode cX6_errorCount 23 = .ok (.invokevirtual 69, 3) := by decide +kernel
theorem dX6_errorCount_26 : decode cX6_errorCount 26 = .ok (.ireturn, 1) := by decide +kernel
theorem dX6_digest_0 : decode cX6_digest 0 = .ok (.aload_n 0, 1) := by decide +kernel
theorem dX6_digest_1 : decode cX6_digest 1 = .ok (.invokevirtual 121, 3) := by decide +kernel
theorem dX6_digest_4 : decode cX6_digest 4 = .ok (.aload_n 0, 1) := by decide +kernel
theorem dX6_digest_5 : decode cX6_digest 5 = .ok (.getfield 32, 3) := by decide +kernel
theorem dX6_digest_8 : decode cX6_digest 8 = .ok (.ldc2_w 175, 3) := by decide +kernel
theorem dX6_digest_11 : decode cX6_digest 11 = .ok (.iconst 0, 1) := by decide +kernel
theorem dX6_digest_12 : decode cX6_digest 12 = .ok (.iconst 3, 1) := by decide +kernel
theorem dX6_digest_13 : decode cX6_digest 13 = .ok (.invokevirtual 177, 3) := by decide +kernel
theorem dX6_digest_16 : decode cX6_digest 16 = .ok (.lstore_n 1, 1) := by decide +kernel
theorem dX6_digest_17 : decode cX6_digest 17 = .ok (.lload_n 1, 1) := by decide +kernel
theorem dX6_digest_18 : decode cX6_digest 18 = .ok (.aload_n 0, 1) := by decide +kernel
theorem dX6_digest_19 : decode cX6_digest 19 = .ok (.getfield 53, 3) := by decide +kernel
theorem dX6_digest_22 : decode cX6_digest 22 = .ok (.i2l, 1) := by decide +kernel
theorem dX6_digest_23 : decode cX6_digest 23 = .ok (.invokestatic 181, 3) := by decide +kernel
theorem dX6_digest_26 : decode cX6_digest 26 = .ok (.lstore_n 1, 1) := by decide +kernel
theorem dX6_digest_27 : decode cX6_digest 27 = .ok (.lload_n 1, 1) := by decide +kernel
theorem dX6_digest_28 : decode cX6_digest 28 = .ok (.aload_n 0, 1) := by decide +kernel
theorem dX6_digest_29 : decode cX6_digest 29 = .ok (.getfield 19, 3) := by decide +kernel
theorem dX6_digest_32 : decode cX6_digest 32 = .ok (.invokevirtual 169, 3) := by decide +kernel
theorem dX6_digest_35 : decode cX6_digest 35 = .ok (.i2l, 1) := by decide +kernel
theorem dX6_digest_36 : decode cX6_digest 36 = .ok (.invokestatic 181, 3) := by decide +kernel
theorem dX6_digest_39 : decode cX6_digest 39 = .ok (.lstore_n 1, 1) := by decide +kernel
theorem dX6_digest_40 : decode cX6_digest 40 = .ok (.aload_n 0, 1) := by decide +kernel
theorem dX6_digest_41 : decode cX6_digest 41 = .ok (.getfield 12, 3) := by decide +kernel
theorem dX6_digest_44 : decode cX6_digest 44 = .ok (.lload_n 1, 1) := by decide +kernel
theorem dX6_digest_45 : decode cX6_digest 45 = .ok (.invokevirtual 185, 3) := by decide +kernel
theorem dX6_digest_48 : decode cX6_digest 48 = .ok (.lstore_n 1, 1) := by decide +kernel
theorem dX6_digest_49 : decode cX6_digest 49 = .ok (.aload_n 0, 1) := by decide +kernel
theorem dX6_digest_50 : decode cX6_digest 50 = .ok (.getfield 49, 3) := by decide +kernel
theorem dX6_digest_53 : decode cX6_digest 53 = .ok (.lload_n 1, 1) := by decide +kernel
theorem dX6_digest_54 : decode cX6_digest 54 = .ok (.invokevirtual 188, 3) := by decide +kernel
theorem dX6_digest_57 : decode cX6_digest 57 = .ok (.lreturn, 1) := by decide +kernel
theorem dX6_isByte_0 : decode cX6_isByte 0 = .ok (.iload_n 0, 1) := by decide +kernel
theorem dX6_isByte_1 : decode cX6_isByte 1 = .ok (.bipush 32, 2) := by decide +kernel
theorem dX6_isByte_3 : decode cX6_isByte 3 = .ok (.if_icmp .lt 13, 3) := by decide +kernel
theorem dX6_isByte_6 : decode cX6_isByte 6 = .ok (.iload_n 0, 1) := by decide +kernel
theorem dX6_isByte_7 : decode cX6_isByte 7 = .ok (.bipush 126, 2) := by decide +kernel
theorem dX6_isByte_9 : decode cX6_isByte 9 = .ok (.if_icmp .gt 7, 3) := by decide +kernel
theorem dX6_isByte_12 : decode cX6_isByte 12 = .ok (.iconst 1, 1) := by decide +kernel
theorem dX6_isByte_13 : decode cX6_isByte 13 = .ok (.goto 4, 3) := by decide +kernel
theorem dX6_isByte_16 : decode cX6_isByte 16 = .ok (.iconst 0, 1) := by decide +kernel
theorem dX6_isByte_17 : decode cX6_isByte 17 = .ok (.ireturn, 1) := by decide +kernel
theorem dX6_isRule_0 : decode cX6_isRule 0 = .ok (.iload_n 0, 1) := by decide +kernel
theorem dX6_isRule_1 : decode cX6_isRule 1 = .ok (.ifCond .lt 13, 3) := by decide +kernel
theorem dX6_isRule_4 : decode cX6_isRule 4 = .ok (.iload_n 0, 1) := by decide +kernel
theorem dX6_isRule_5 : decode cX6_isRule 5 = .ok (.bipush 6, 2) := by decide +kernel
theorem dX6_isRule_7 : decode cX6_isRule 7 = .ok (.if_icmp .ge 7, 3) := by decide +kernel
theorem dX6_isRule_10 : decode cX6_isRule 10 = .ok (.iconst 1, 1) := by decide +kernel
theorem dX6_isRule_11 : decode cX6_isRule 11 = .ok (.goto 4, 3) := by decide +kernel
theorem dX6_isRule_14 : decode cX6_isRule 14 = .ok (.iconst 0, 1) := by decide +kernel
theorem dX6_isRule_15 : decode cX6_isRule 15 = .ok (.ireturn, 1) := by decide +kernel
theorem dX6_isReference_0 : decode cX6_isReference 0 = .ok (.iload_n 0, 1) := by decide +kernel
theorem dX6_isReference_1 : decode cX6_isReference 1 = .ok (.bipush 65, 2) := by decide +kernel
theorem dX6_isReference_3 : decode cX6_isReference 3 = .ok (.if_icmp .lt 13, 3) := by decide +kernel
theorem dX6_isReference_6 : decode cX6_isReference 6 = .ok (.iload_n 0, 1) := by decide +kernel
theorem dX6_isReference_7 : decode cX6_isReference 7 = .ok (.bipush 70, 2) := by decide +kernel
theorem dX6_isReference_9 : decode cX6_isReference 9 = .ok (.if_icmp .gt 7, 3) := by decide +kernel
theorem dX6_isReference_12 : decode cX6_isReference 12 = .ok (.iconst 1, 1) := by decide +kernel
theorem dX6_isReference_13 : decode cX6_isReference 13 = .ok (.goto 4, 3) := by decide +kernel
theorem dX6_isReference_16 : decode cX6_isReference 16 = .ok (.iconst 0, 1) := by decide +kernel
theorem dX6_isReference_17 : decode cX6_isReference 17 = .ok (.ireturn, 1) := by decide +kernel
theorem dX6_canStartPattern_0 : decode cX6_canStartPattern 0 = .ok (.iload_n 0, 1) := by decide +kernel
theorem dX6_canStartPattern_1 : decode cX6_canStartPattern 1 = .ok (.bipush 126, 2) := by decide +kernel
theorem dX6_canStartPattern_3 : decode cX6_canStartPattern 3 = .ok (.if_icmp .eq 14, 3) := by decide +kernel
theorem dX6_canStartPattern_6 : decode cX6_canStartPattern 6 = .ok (.iload_n 0, 1) := by decide +kernel
theorem dX6_canStartPattern_7 : decode cX6_canStartPattern 7 = .ok (.invokestatic 189, 3) := by decide +kernel
theorem dX6_canStartPattern_10 : decode cX6_canStartPattern 10 = .ok (.ifCond .ne 7, 3) := by decide +kernel
theorem dX6_canStartPattern_13 : decode cX6_canStartPattern 13 = .ok (.iconst 1, 1) := by decide +kernel
theorem dX6_canStartPattern_14 : decode cX6_canStartPattern 14 = .ok (.goto 4, 3) := by decide +kernel
theorem dX6_canStartPattern_17 : decode cX6_canStartPattern 17 = .ok (.iconst 0, 1) := by decide +kernel
theorem dX6_canStartPattern_18 : decode cX6_canStartPattern 18 = .ok (.ireturn, 1) := by decide +kernel
theorem dX6_isDigit_0 : decode cX6_isDigit 0 = .ok (.iload_n 0, 1) := by decide +kernel
theorem dX6_isDigit_1 : decode cX6_isDigit 1 = .ok (.bipush 48, 2) := by decide +kernel
theorem dX6_isDigit_3 : decode cX6_isDigit 3 = .ok (.if_icmp .lt 13, 3) := by decide +kernel
theorem dX6_isDigit_6 : decode cX6_isDigit 6 = .ok (.iload_n 0, 1) := by decide +kernel
theorem dX6_isDigit_7 : decode cX6_isDigit 7 = .ok (.bipush 57, 2) := by decide +kernel
theorem dX6_isDigit_9 : decode cX6_isDigit 9 = .ok (.if_icmp .gt 7, 3) := by decide +kernel
theorem dX6_isDigit_12 : decode cX6_isDigit 12 = .ok (.iconst 1, 1) := by decide +kernel
theorem dX6_isDigit_13 : decode cX6_isDigit 13 = .ok (.goto 4, 3) := by decide +kernel
theorem dX6_isDigit_16 : decode cX6_isDigit 16 = .ok (.iconst 0, 1) := by decide +kernel
theorem dX6_isDigit_17 : decode cX6_isDigit 17 = .ok (.ireturn, 1) := by decide +kernel
theorem dX6_isLetter_0 : decode cX6_isLetter 0 = .ok (.iload_n 0, 1) := by decide +kernel
theorem dX6_isLetter_1 : decode cX6_isLetter 1 = .ok (.bipush 97, 2) := by decide +kernel
theorem dX6_isLetter_3 : decode cX6_isLetter 3 = .ok (.if_icmp .lt 13, 3) := by decide +kernel
theorem dX6_isLetter_6 : decode cX6_isLetter 6 = .ok (.iload_n 0, 1) := by decide +kernel
theorem dX6_isLetter_7 : decode cX6_isLetter 7 = .ok (.bipush 122, 2) := by decide +kernel
theorem dX6_isLetter_9 : decode cX6_isLetter 9 = .ok (.if_icmp .gt 7, 3) := by decide +kernel
theorem dX6_isLetter_12 : decode cX6_isLetter 12 = .ok (.iconst 1, 1) := by decide +kernel
theorem dX6_isLetter_13 : decode cX6_isLetter 13 = .ok (.goto 4, 3) := by decide +kernel
theorem dX6_isLetter_16 : decode cX6_isLetter 16 = .ok (.iconst 0, 1) := by decide +kernel
theorem dX6_isLetter_17 : decode cX6_isLetter 17 = .ok (.ireturn, 1) := by decide +kernel
theorem dX6_mix_0 : decode cX6_mix 0 = .ok (.ldc2_w 192, 3) := by decide +kernel
theorem dX6_mix_3 : decode cX6_mix 3 = .ok (.lload_n 0, 1) := by decide +kernel
theorem dX6_mix_4 : decode cX6_mix 4 = .ok (.lmul, 1) := by decide +kernel
theorem dX6_mix_5 : decode cX6_mix 5 = .ok (.lload_n 2, 1) := by decide +kernel
theorem dX6_mix_6 : decode cX6_mix 6 = .ok (.ladd, 1) := by decide +kernel
theorem dX6_mix_7 : decode cX6_mix 7 = .ok (.lreturn, 1) := by decide +kernel
theorem dX6_isInText_0 : decode cX6_isInText 0 = .ok (.iload_n 1, 1) := by decide +kernel
theorem dX6_isInText_1 : decode cX6_isInText 1 = .ok (.ifCond .lt 18, 3) := by decide +kernel
theorem dX6_isInText_4 : decode cX6_isInText 4 = .ok (.iload_n 1, 1) := by decide +kernel
theorem dX6_isInText_5 : decode cX6_isInText 5 = .ok (.aload_n 0, 1) := by decide +kernel
theorem dX6_isInText_6 : decode cX6_isInText 6 = .ok (.getfield 12, 3) := by decide +kernel
theorem dX6_isInText_9 : decode cX6_isInText 9 = .ok (.invokevirtual 61, 3) := by decide +kernel
theorem dX6_isInText_12 : decode cX6_isInText 12 = .ok (.if_icmp .ge 7, 3) := by decide +kernel
theorem dX6_isInText_15 : decode cX6_isInText 15 = .ok (.iconst 1, 1) := by decide +kernel
theorem dX6_isInText_16 : decode cX6_isInText 16 = .ok (.goto 4, 3) := by decide +kernel
theorem dX6_isInText_19 : decode cX6_isInText 19 = .ok (.iconst 0, 1) := by decide +kernel
theorem dX6_isInText_20 : decode cX6_isInText 20 = .ok (.ireturn, 1) := by decide +kernel
theorem dX6_fail_0 : decode cX6_fail 0 = .ok (.bipush (-2), 2) := by decide +kernel
theorem dX6_fail_2 : decode cX6_fail 2 = .ok (.iload_n 1, 1) := by decide +kernel
theorem dX6_fail_3 : decode cX6_fail 3 = .ok (.isub, 1) := by decide +kernel
theorem dX6_fail_4 : decode cX6_fail 4 = .ok (.istore_n 2, 1) := by decide +kernel
theorem dX6_fail_5 : decode cX6_fail 5 = .ok (.aload_n 0, 1) := by decide +kernel
theorem dX6_fail_6 : decode cX6_fail 6 = .ok (.getfield 32, 3) := by decide +kernel
theorem dX6_fail_9 : decode cX6_fail 9 = .ok (.iload_n 2, 1) := by decide +kernel
theorem dX6_fail_10 : decode cX6_fail 10 = .ok (.aload_n 0, 1) := by decide +kernel
theorem dX6_fail_11 : decode cX6_fail 11 = .ok (.getfield 32, 3) := by decide +kernel
theorem dX6_fail_14 : decode cX6_fail 14 = .ok (.iload_n 2, 1) := by decide +kernel
theorem dX6_fail_15 : decode cX6_fail 15 = .ok (.invokevirtual 98, 3) := by decide +kernel
theorem dX6_fail_18 : decode cX6_fail 18 = .ok (.iconst 1, 1) := by decide +kernel
theorem dX6_fail_19 : decode cX6_fail 19 = .ok (.iadd, 1) := by decide +kernel
theorem dX6_fail_20 : decode cX6_fail 20 = .ok (.invokevirtual 92, 3) := by decide +kernel
theorem dX6_fail_23 : decode cX6_fail 23 = .ok (.iload_n 1, 1) := by decide +kernel
theorem dX6_fail_24 : decode cX6_fail 24 = .ok (.ireturn, 1) := by decide +kernel
theorem dX6_prepareChange_0 : decode cX6_prepareChange 0 = .ok (.aload_n 0, 1) := by decide +kernel
theorem dX6_prepareChange_1 : decode cX6_prepareChange 1 = .ok (.getfield 19, 3) := by decide +kernel
theorem dX6_prepareChange_4 : decode cX6_prepareChange 4 = .ok (.aload_n 0, 1) := by decide +kernel
theorem dX6_prepareChange_5 : decode cX6_prepareChange 5 = .ok (.getfield 12, 3) := by decide +kernel
theorem dX6_prepareChange_8 : decode cX6_prepareChange 8 = .ok (.invokevirtual 194, 3) := by decide +kernel
theorem dX6_prepareChange_11 : decode cX6_prepareChange 11 = .ok (.aload_n 0, 1) := by decide +kernel
theorem dX6_prepareChange_12 : decode cX6_prepareChange 12 = .ok (.iconst 1, 1) := by decide +kernel
theorem dX6_prepareChange_13 : decode cX6_prepareChange 13 = .ok (.putfield 57, 3) := by decide +kernel
theorem dX6_prepareChange_16 : decode cX6_prepareChange 16 = .ok (.return_, 1) := by decide +kernel
theorem dX6_refresh_0 : decode cX6_refresh 0 = .ok (.aload_n 0, 1) := by decide +kernel
theorem dX6_refresh_1 : decode cX6_refresh 1 = .ok (.getfield 57, 3) := by decide +kernel
theorem dX6_refresh_4 : decode cX6_refresh 4 = .ok (.ifCond .eq 22, 3) := by decide +kernel
theorem dX6_refresh_7 : decode cX6_refresh 7 = .ok (.aload_n 0, 1) := by decide +kernel
theorem dX6_refresh_8 : decode cX6_refresh 8 = .ok (.getfield 40, 3) := by decide +kernel
theorem dX6_refresh_11 : decode cX6_refresh 11 = .ok (.invokevirtual 197, 3) := by decide +kernel
theorem dX6_refresh_14 : decode cX6_refresh 14 = .ok (.aload_n 0, 1) := by decide +kernel
theorem dX6_refresh_15 : decode cX6_refresh 15 = .ok (.getfield 49, 3) := by decide +kernel
theorem dX6_refresh_18 : decode cX6_refresh 18 = .ok (.invokevirtual 200, 3) := by decide +kernel
theorem dX6_refresh_21 : decode cX6_refresh 21 = .ok (.aload_n 0, 1) := by decide +kernel
theorem dX6_refresh_22 : decode cX6_refresh 22 = .ok (.iconst 0, 1) := by decide +kernel
theorem dX6_refresh_23 : decode cX6_refresh 23 = .ok (.putfield 57, 3) := by decide +kernel
theorem dX6_refresh_26 : decode cX6_refresh 26 = .ok (.return_, 1) := by decide +kernel
theorem dX7_init_0 : decode cX7_init 0 = .ok (.aload_n 0, 1) := by decide +kernel
theorem dX7_init_1 : decode cX7_init 1 = .ok (.invokespecial 1, 3) := by decide +kernel
theorem dX7_init_4 : decode cX7_init 4 = .ok (.aload_n 0, 1) := by decide +kernel
theorem dX7_init_5 : decode cX7_init 5 = .ok (.sipush 161, 3) := by decide +kernel
theorem dX7_init_8 : decode cX7_init 8 = .ok (.newarray .int, 2) := by decide +kernel
theorem dX7_init_10 : decode cX7_init 10 = .ok (.putfield 7, 3) := by decide +kernel
theorem dX7_init_13 : decode cX7_init 13 = .ok (.aload_n 0, 1) := by decide +kernel
theorem dX7_init_14 : decode cX7_init 14 = .ok (.sipush 644, 3) := by decide +kernel
theorem dX7_init_17 : decode cX7_init 17 = .ok (.newarray .int, 2) := by decide +kernel
theorem dX7_init_19 : decode cX7_init 19 = .ok (.putfield 13, 3) := by decide +kernel
theorem dX7_init_22 : decode cX7_init 22 = .ok (.aload_n 0, 1) := by decide +kernel
theorem dX7_init_23 : decode cX7_init 23 = .ok (.bipush 8, 2) := by decide +kernel
theorem dX7_init_25 : decode cX7_init 25 = .ok (.newarray .int, 2) := by decide +kernel
theorem dX7_init_27 : decode cX7_init 27 = .ok (.putfield 16, 3) := by decide +kernel
theorem dX7_init_30 : decode cX7_init 30 = .ok (.aload_n 0, 1) := by decide +kernel
theorem dX7_init_31 : decode cX7_init 31 = .ok (.iconst 3, 1) := by decide +kernel
theorem dX7_init_32 : decode cX7_init 32 = .ok (.newarray .int, 2) := by decide +kernel
