theorem dX4_init_0 : decode cX4_init 0 = .ok (.aload_n 0, 1) := by decide +kernel
theorem dX4_init_1 : decode cX4_init 1 = .ok (.invokespecial 1, 3) := by decide +kernel
theorem dX4_init_4 : decode cX4_init 4 = .ok (.aload_n 0, 1) := by decide +kernel
theorem dX4_init_5 : decode cX4_init 5 = .ok (.new 7, 3) := by decide +kernel
theorem dX4_init_8 : decode cX4_init 8 = .ok (.dup, 1) := by decide +kernel
theorem dX4_init_9 : decode cX4_init 9 = .ok (.invokespecial 9, 3) := by decide +kernel
theorem dX4_init_12 : decode cX4_init 12 = .ok (.putfield 10, 3) := by decide +kernel
theorem dX4_init_15 : decode cX4_init 15 = .ok (.aload_n 0, 1) := by decide +kernel
theorem dX4_init_16 : decode cX4_init 16 = .ok (.new 7, 3) := by decide +kernel
theorem dX4_init_19 : decode cX4_init 19 = .ok (.dup, 1) := by decide +kernel
theorem dX4_init_20 : decode cX4_init 20 = .ok (.invokespecial 9, 3) := by decide +kernel
theorem dX4_init_23 : decode cX4_init 23 = .ok (.putfield 16, 3) := by decide +kernel
theorem dX4_init_26 : decode cX4_init 26 = .ok (.aload_n 0, 1) := by decide +kernel
theorem dX4_init_27 : decode cX4_init 27 = .ok (.new 7, 3) := by decide +kernel
theorem dX4_init_30 : decode cX4_init 30 = .ok (.dup, 1) := by decide +kernel
theorem dX4_init_31 : decode cX4_init 31 = .ok (.invokespecial 9, 3) := by decide +kernel
theorem dX4_init_34 : decode cX4_init 34 = .ok (.putfield 19, 3) := by decide +kernel
theorem dX4_init_37 : decode cX4_init 37 = .ok (.aload_n 0, 1) := by decide +kernel
theorem dX4_init_38 : decode cX4_init 38 = .ok (.iconst 0, 1) := by decide +kernel
theorem dX4_init_39 : decode cX4_init 39 = .ok (.putfield 22, 3) := by decide +kernel
theorem dX4_init_42 : decode cX4_init 42 = .ok (.aload_n 0, 1) := by decide +kernel
theorem dX4_init_43 : decode cX4_init 43 = .ok (.new 26, 3) := by decide +kernel
theorem dX4_init_46 : decode cX4_init 46 = .ok (.dup, 1) := by decide +kernel
theorem dX4_init_47 : decode cX4_init 47 = .ok (.invokespecial 28, 3) := by decide +kernel
theorem dX4_init_50 : decode cX4_init 50 = .ok (.putfield 29, 3) := by decide +kernel
theorem dX4_init_53 : decode cX4_init 53 = .ok (.aload_n 0, 1) := by decide +kernel
theorem dX4_init_54 : decode cX4_init 54 = .ok (.new 33, 3) := by decide +kernel
theorem dX4_init_57 : decode cX4_init 57 = .ok (.dup, 1) := by decide +kernel
theorem dX4_init_58 : decode cX4_init 58 = .ok (.invokespecial 35, 3) := by decide +kernel
theorem dX4_init_61 : decode cX4_init 61 = .ok (.putfield 36, 3) := by decide +kernel
theorem dX4_init_64 : decode cX4_init 64 = .ok (.return_, 1) := by decide +kernel
theorem dX4_addCopy_0 : decode cX4_addCopy 0 = .ok (.iload_n 1, 1) := by decide +kernel
theorem dX4_addCopy_1 : decode cX4_addCopy 1 = .ok (.invokestatic 40, 3) := by decide +kernel
theorem dX4_addCopy_4 : decode cX4_addCopy 4 = .ok (.ifCond .eq 10, 3) := by decide +kernel
theorem dX4_addCopy_7 : decode cX4_addCopy 7 = .ok (.iload_n 2, 1) := by decide +kernel
theorem dX4_addCopy_8 : decode cX4_addCopy 8 = .ok (.invokestatic 44, 3) := by decide +kernel
theorem dX4_addCopy_11 : decode cX4_addCopy 11 = .ok (.ifCond .ne 5, 3) := by decide +kernel
theorem dX4_addCopy_14 : decode cX4_addCopy 14 = .ok (.iconst (-1), 1) := by decide +kernel
theorem dX4_addCopy_15 : decode cX4_addCopy 15 = .ok (.ireturn, 1) := by decide +kernel
theorem dX4_addCopy_16 : decode cX4_addCopy 16 = .ok (.aload_n 0, 1) := by decide +kernel
theorem dX4_addCopy_17 : decode cX4_addCopy 17 = .ok (.getfield 10, 3) := by decide +kernel
theorem dX4_addCopy_20 : decode cX4_addCopy 20 = .ok (.getfield 47, 3) := by decide +kernel
theorem dX4_addCopy_23 : decode cX4_addCopy 23 = .ok (.invokevirtual 51, 3) := by decide +kernel
theorem dX4_addCopy_26 : decode cX4_addCopy 26 = .ok (.istore_n 3, 1) := by decide +kernel
theorem dX4_addCopy_27 : decode cX4_addCopy 27 = .ok (.iload_n 3, 1) := by decide +kernel
theorem dX4_addCopy_28 : decode cX4_addCopy 28 = .ok (.ifCond .ge 6, 3) := by decide +kernel
theorem dX4_addCopy_31 : decode cX4_addCopy 31 = .ok (.bipush (-3), 2) := by decide +kernel
theorem dX4_addCopy_33 : decode cX4_addCopy 33 = .ok (.ireturn, 1) := by decide +kernel
theorem dX4_addCopy_34 : decode cX4_addCopy 34 = .ok (.aload_n 0, 1) := by decide +kernel
theorem dX4_addCopy_35 : decode cX4_addCopy 35 = .ok (.getfield 10, 3) := by decide +kernel
theorem dX4_addCopy_38 : decode cX4_addCopy 38 = .ok (.getfield 47, 3) := by decide +kernel
theorem dX4_addCopy_41 : decode cX4_addCopy 41 = .ok (.iload_n 3, 1) := by decide +kernel
theorem dX4_addCopy_42 : decode cX4_addCopy 42 = .ok (.iconst 0, 1) := by decide +kernel
theorem dX4_addCopy_43 : decode cX4_addCopy 43 = .ok (.iload_n 1, 1) := by decide +kernel
theorem dX4_addCopy_44 : decode cX4_addCopy 44 = .ok (.invokevirtual 57, 3) := by decide +kernel
theorem dX4_addCopy_47 : decode cX4_addCopy 47 = .ok (.aload_n 0, 1) := by decide +kernel
theorem dX4_addCopy_48 : decode cX4_addCopy 48 = .ok (.getfield 10, 3) := by decide +kernel
theorem dX4_addCopy_51 : decode cX4_addCopy 51 = .ok (.getfield 47, 3) := by decide +kernel
theorem dX4_addCopy_54 : decode cX4_addCopy 54 = .ok (.iload_n 3, 1) := by decide +kernel
theorem dX4_addCopy_55 : decode cX4_addCopy 55 = .ok (.iconst 1, 1) := by decide +kernel
theorem dX4_addCopy_56 : decode cX4_addCopy 56 = .ok (.iload_n 2, 1) := by decide +kernel
theorem dX4_addCopy_57 : decode cX4_addCopy 57 = .ok (.invokevirtual 57, 3) := by decide +kernel
theorem dX4_addCopy_60 : decode cX4_addCopy 60 = .ok (.aload_n 0, 1) := by decide +kernel
theorem dX4_addCopy_61 : decode cX4_addCopy 61 = .ok (.iload_n 3, 1) := by decide +kernel
theorem dX4_addCopy_62 : decode cX4_addCopy 62 = .ok (.iload_n 2, 1) := by decide +kernel
theorem dX4_addCopy_63 : decode cX4_addCopy 63 = .ok (.invokevirtual 61, 3) := by decide +kernel
theorem dX4_addCopy_66 : decode cX4_addCopy 66 = .ok (.aload_n 0, 1) := by decide +kernel
theorem dX4_addCopy_67 : decode cX4_addCopy 67 = .ok (.iload_n 3, 1) := by decide +kernel
theorem dX4_addCopy_68 : decode cX4_addCopy 68 = .ok (.invokevirtual 65, 3) := by decide +kernel
theorem dX4_addCopy_71 : decode cX4_addCopy 71 = .ok (.ireturn, 1) := by decide +kernel
theorem dX4_addPatron_0 : decode cX4_addPatron 0 = .ok (.aload_n 0, 1) := by decide +kernel
theorem dX4_addPatron_1 : decode cX4_addPatron 1 = .ok (.getfield 10, 3) := by decide +kernel
theorem dX4_addPatron_4 : decode cX4_addPatron 4 = .ok (.getfield 69, 3) := by decide +kernel
theorem dX4_addPatron_7 : decode cX4_addPatron 7 = .ok (.invokevirtual 51, 3) := by decide +kernel
theorem dX4_addPatron_10 : decode cX4_addPatron 10 = .ok (.istore_n 1, 1) := by decide +kernel
theorem dX4_addPatron_11 : decode cX4_addPatron 11 = .ok (.iload_n 1, 1) := by decide +kernel
theorem dX4_addPatron_12 : decode cX4_addPatron 12 = .ok (.ifCond .ge 6, 3) := by decide +kernel
theorem dX4_addPatron_15 : decode cX4_addPatron 15 = .ok (.bipush (-3), 2) := by decide +kernel
theorem dX4_addPatron_17 : decode cX4_addPatron 17 = .ok (.ireturn, 1) := by decide +kernel
theorem dX4_addPatron_18 : decode cX4_addPatron 18 = .ok (.aload_n 0, 1) := by decide +kernel
theorem dX4_addPatron_19 : decode cX4_addPatron 19 = .ok (.iload_n 1, 1) := by decide +kernel
theorem dX4_addPatron_20 : decode cX4_addPatron 20 = .ok (.invokevirtual 65, 3) := by decide +kernel
theorem dX4_addPatron_23 : decode cX4_addPatron 23 = .ok (.ireturn, 1) := by decide +kernel
theorem dX4_set_0 : decode cX4_set 0 = .ok (.aload_n 0, 1) := by decide +kernel
theorem dX4_set_1 : decode cX4_set 1 = .ok (.getfield 10, 3) := by decide +kernel
theorem dX4_set_4 : decode cX4_set 4 = .ok (.getfield 72, 3) := by decide +kernel
theorem dX4_set_7 : decode cX4_set 7 = .ok (.iload_n 1, 1) := by decide +kernel
theorem dX4_set_8 : decode cX4_set 8 = .ok (.invokevirtual 75, 3) := by decide +kernel
theorem dX4_set_11 : decode cX4_set 11 = .ok (.ifCond .eq 11, 3) := by decide +kernel
theorem dX4_set_14 : decode cX4_set 14 = .ok (.iload_n 1, 1) := by decide +kernel
theorem dX4_set_15 : decode cX4_set 15 = .ok (.iload_n 2, 1) := by decide +kernel
theorem dX4_set_16 : decode cX4_set 16 = .ok (.invokestatic 78, 3) := by decide +kernel
theorem dX4_set_19 : decode cX4_set 19 = .ok (.ifCond .ne 5, 3) := by decide +kernel
theorem dX4_set_22 : decode cX4_set 22 = .ok (.iconst (-1), 1) := by decide +kernel
theorem dX4_set_23 : decode cX4_set 23 = .ok (.ireturn, 1) := by decide +kernel
theorem dX4_set_24 : decode cX4_set 24 = .ok (.aload_n 0, 1) := by decide +kernel
theorem dX4_set_25 : decode cX4_set 25 = .ok (.iload_n 1, 1) := by decide +kernel
theorem dX4_set_26 : decode cX4_set 26 = .ok (.invokevirtual 82, 3) := by decide +kernel
theorem dX4_set_29 : decode cX4_set 29 = .ok (.istore_n 3, 1) := by decide +kernel
theorem dX4_set_30 : decode cX4_set 30 = .ok (.aload_n 0, 1) := by decide +kernel
theorem dX4_set_31 : decode cX4_set 31 = .ok (.getfield 10, 3) := by decide +kernel
theorem dX4_set_34 : decode cX4_set 34 = .ok (.getfield 72, 3) := by decide +kernel
theorem dX4_set_37 : decode cX4_set 37 = .ok (.iload_n 1, 1) := by decide +kernel
theorem dX4_set_38 : decode cX4_set 38 = .ok (.iconst 0, 1) := by decide +kernel
theorem dX4_set_39 : decode cX4_set 39 = .ok (.iload_n 2, 1) := by decide +kernel
theorem dX4_set_40 : decode cX4_set 40 = .ok (.invokevirtual 57, 3) := by decide +kernel
theorem dX4_set_43 : decode cX4_set 43 = .ok (.aload_n 0, 1) := by decide +kernel
theorem dX4_set_44 : decode cX4_set 44 = .ok (.iload_n 3, 1) := by decide +kernel
theorem dX4_set_45 : decode cX4_set 45 = .ok (.invokevirtual 65, 3) := by decide +kernel
theorem dX4_set_48 : decode cX4_set 48 = .ok (.ireturn, 1) := by decide +kernel
theorem dX4_setting_0 : decode cX4_setting 0 = .ok (.aload_n 0, 1) := by decide +kernel
theorem dX4_setting_1 : decode cX4_setting 1 = .ok (.getfield 10, 3) := by decide +kernel
theorem dX4_setting_4 : decode cX4_setting 4 = .ok (.getfield 72, 3) := by decide +kernel
theorem dX4_setting_7 : decode cX4_setting 7 = .ok (.iload_n 1, 1) := by decide +kernel
theorem dX4_setting_8 : decode cX4_setting 8 = .ok (.invokevirtual 75, 3) := by decide +kernel
theorem dX4_setting_11 : decode cX4_setting 11 = .ok (.ifCond .eq 11, 3) := by decide +kernel
theorem dX4_setting_14 : decode cX4_setting 14 = .ok (.aload_n 0, 1) := by decide +kernel
theorem dX4_setting_15 : decode cX4_setting 15 = .ok (.iload_n 1, 1) := by decide +kernel
theorem dX4_setting_16 : decode cX4_setting 16 = .ok (.invokevirtual 82, 3) := by decide +kernel
theorem dX4_setting_19 : decode cX4_setting 19 = .ok (.goto 4, 3) := by decide +kernel
theorem dX4_setting_22 : decode cX4_setting 22 = .ok (.iconst (-1), 1) := by decide +kernel
theorem dX4_setting_23 : decode cX4_setting 23 = .ok (.ireturn, 1) := by decide +kernel
theorem dX4_setFloating_0 : decode cX4_setFloating 0 = .ok (.aload_n 0, 1) := by decide +kernel
theorem dX4_setFloating_1 : decode cX4_setFloating 1 = .ok (.iload_n 1, 1) := by decide +kernel
theorem dX4_setFloating_2 : decode cX4_setFloating 2 = .ok (.invokevirtual 85, 3) := by decide +kernel
theorem dX4_setFloating_5 : decode cX4_setFloating 5 = .ok (.ifCond .ne 5, 3) := by decide +kernel
theorem dX4_setFloating_8 : decode cX4_setFloating 8 = .ok (.iconst (-1), 1) := by decide +kernel
theorem dX4_setFloating_9 : decode cX4_setFloating 9 = .ok (.ireturn, 1) := by decide +kernel
theorem dX4_setFloating_10 : decode cX4_setFloating 10 = .ok (.aload_n 0, 1) := by decide +kernel
theorem dX4_setFloating_11 : decode cX4_setFloating 11 = .ok (.getfield 10, 3) := by decide +kernel
theorem dX4_setFloating_14 : decode cX4_setFloating 14 = .ok (.getfield 47, 3) := by decide +kernel
theorem dX4_setFloating_17 : decode cX4_setFloating 17 = .ok (.iload_n 1, 1) := by decide +kernel
theorem dX4_setFloating_18 : decode cX4_setFloating 18 = .ok (.iconst 2, 1) := by decide +kernel
theorem dX4_setFloating_19 : decode cX4_setFloating 19 = .ok (.invokevirtual 88, 3) := by decide +kernel
theorem dX4_setFloating_22 : decode cX4_setFloating 22 = .ok (.istore_n 3, 1) := by decide +kernel
theorem dX4_setFloating_23 : decode cX4_setFloating 23 = .ok (.aload_n 0, 1) := by decide +kernel
theorem dX4_setFloating_24 : decode cX4_setFloating 24 = .ok (.getfield 10, 3) := by decide +kernel
theorem dX4_setFloating_27 : decode cX4_setFloating 27 = .ok (.getfield 47, 3) := by decide +kernel
theorem dX4_setFloating_30 : decode cX4_setFloating 30 = .ok (.iload_n 1, 1) := by decide +kernel
theorem dX4_setFloating_31 : decode cX4_setFloating 31 = .ok (.iconst 2, 1) := by decide +kernel
theorem dX4_setFloating_32 : decode cX4_setFloating 32 = .ok (.iload_n 2, 1) := by decide +kernel
theorem dX4_setFloating_33 : decode cX4_setFloating 33 = .ok (.ifCond .eq 7, 3) := by decide +kernel
theorem dX4_setFloating_36 : decode cX4_setFloating 36 = .ok (.iconst 1, 1) := by decide +kernel
theorem dX4_setFloating_37 : decode cX4_setFloating 37 = .ok (.goto 4, 3) := by decide +kernel
theorem dX4_setFloating_40 : decode cX4_setFloating 40 = .ok (.iconst 0, 1) := by decide +kernel
theorem dX4_setFloating_41 : decode cX4_setFloating 41 = .ok (.invokevirtual 57, 3) := by decide +kernel
theorem dX4_setFloating_44 : decode cX4_setFloating 44 = .ok (.aload_n 0, 1) := by decide +kernel
theorem dX4_setFloating_45 : decode cX4_setFloating 45 = .ok (.iload_n 3, 1) := by decide +kernel
theorem dX4_setFloating_46 : decode cX4_setFloating 46 = .ok (.invokevirtual 65, 3) := by decide +kernel
theorem dX4_setFloating_49 : decode cX4_setFloating 49 = .ok (.ireturn, 1) := by decide +kernel
theorem dX4_copyCount_0 : decode cX4_copyCount 0 = .ok (.iload_n 1, 1) := by decide +kernel
theorem dX4_copyCount_1 : decode cX4_copyCount 1 = .ok (.iconst (-1), 1) := by decide +kernel
theorem dX4_copyCount_2 : decode cX4_copyCount 2 = .ok (.if_icmp .ne 14, 3) := by decide +kernel
theorem dX4_copyCount_5 : decode cX4_copyCount 5 = .ok (.aload_n 0, 1) := by decide +kernel
theorem dX4_copyCount_6 : decode cX4_copyCount 6 = .ok (.getfield 10, 3) := by decide +kernel
theorem dX4_copyCount_9 : decode cX4_copyCount 9 = .ok (.getfield 47, 3) := by decide +kernel
theorem dX4_copyCount_12 : decode cX4_copyCount 12 = .ok (.invokevirtual 92, 3) := by decide +kernel
theorem dX4_copyCount_15 : decode cX4_copyCount 15 = .ok (.ireturn, 1) := by decide +kernel
theorem dX4_copyCount_16 : decode cX4_copyCount 16 = .ok (.iload_n 1, 1) := by decide +kernel
theorem dX4_copyCount_17 : decode cX4_copyCount 17 = .ok (.ifCond .lt 9, 3) := by decide +kernel
theorem dX4_copyCount_20 : decode cX4_copyCount 20 = .ok (.iload_n 1, 1) := by decide +kernel
theorem dX4_copyCount_21 : decode cX4_copyCount 21 = .ok (.bipush 6, 2) := by decide +kernel
theorem dX4_copyCount_23 : decode cX4_copyCount 23 = .ok (.if_icmp .lt 5, 3) := by decide +kernel
theorem dX4_copyCount_26 : decode cX4_copyCount 26 = .ok (.iconst (-1), 1) := by decide +kernel
theorem dX4_copyCount_27 : decode cX4_copyCount 27 = .ok (.ireturn, 1) := by decide +kernel
theorem dX4_copyCount_28 : decode cX4_copyCount 28 = .ok (.iconst 0, 1) := by decide +kernel
theorem dX4_copyCount_29 : decode cX4_copyCount 29 = .ok (.istore_n 2, 1) := by decide +kernel
theorem dX4_copyCount_30 : decode cX4_copyCount 30 = .ok (.iconst 0, 1) := by decide +kernel
theorem dX4_copyCount_31 : decode cX4_copyCount 31 = .ok (.istore_n 3, 1) := by decide +kernel
theorem dX4_copyCount_32 : decode cX4_copyCount 32 = .ok (.iload_n 3, 1) := by decide +kernel
theorem dX4_copyCount_33 : decode cX4_copyCount 33 = .ok (.aload_n 0, 1) := by decide +kernel
theorem dX4_copyCount_34 : decode cX4_copyCount 34 = .ok (.getfield 10, 3) := by decide +kernel
theorem dX4_copyCount_37 : decode cX4_copyCount 37 = .ok (.getfield 47, 3) := by decide +kernel
theorem dX4_copyCount_40 : decode cX4_copyCount 40 = .ok (.invokevirtual 92, 3) := by decide +kernel
theorem dX4_copyCount_43 : decode cX4_copyCount 43 = .ok (.if_icmp .ge 21, 3) := by decide +kernel
theorem dX4_copyCount_46 : decode cX4_copyCount 46 = .ok (.aload_n 0, 1) := by decide +kernel
theorem dX4_copyCount_47 : decode cX4_copyCount 47 = .ok (.iload_n 3, 1) := by decide +kernel
theorem dX4_copyCount_48 : decode cX4_copyCount 48 = .ok (.invokevirtual 95, 3) := by decide +kernel
theorem dX4_copyCount_51 : decode cX4_copyCount 51 = .ok (.iload_n 1, 1) := by decide +kernel
theorem dX4_copyCount_52 : decode cX4_copyCount 52 = .ok (.if_icmp .ne 6, 3) := by decide +kernel
theorem dX4_copyCount_55 : decode cX4_copyCount 55 = .ok (.iinc 2 1, 3) := by decide +kernel
theorem dX4_copyCount_58 : decode cX4_copyCount 58 = .ok (.iinc 3 1, 3) := by decide +kernel
theorem dX4_copyCount_61 : decode cX4_copyCount 61 = .ok (.goto (-29), 3) := by decide +kernel
theorem dX4_copyCount_64 : decode cX4_copyCount 64 = .ok (.iload_n 2, 1) := by decide +kernel
theorem dX4_copyCount_65 : decode cX4_copyCount 65 = .ok (.ireturn, 1) := by decide +kernel
theorem dX4_copy_0 : decode cX4_copy 0 = .ok (.aload_n 0, 1) := by decide +kernel
theorem dX4_copy_1 : decode cX4_copy 1 = .ok (.iload_n 1, 1) := by decide +kernel
theorem dX4_copy_2 : decode cX4_copy 2 = .ok (.invokevirtual 85, 3) := by decide +kernel
theorem dX4_copy_5 : decode cX4_copy 5 = .ok (.ifCond .eq 13, 3) := by decide +kernel
theorem dX4_copy_8 : decode cX4_copy 8 = .ok (.iload_n 2, 1) := by decide +kernel
theorem dX4_copy_9 : decode cX4_copy 9 = .ok (.ifCond .lt 9, 3) := by decide +kernel
theorem dX4_copy_12 : decode cX4_copy 12 = .ok (.iload_n 2, 1) := by decide +kernel
theorem dX4_copy_13 : decode cX4_copy 13 = .ok (.bipush 10, 2) := by decide +kernel
theorem dX4_copy_15 : decode cX4_copy 15 = .ok (.if_icmp .lt 5, 3) := by decide +kernel
theorem dX4_copy_18 : decode cX4_copy 18 = .ok (.iconst (-1), 1) := by decide +kernel
theorem dX4_copy_19 : decode cX4_copy 19 = .ok (.ireturn, 1) := by decide +kernel
theorem dX4_copy_20 : decode cX4_copy 20 = .ok (.aload_n 0, 1) := by decide +kernel
theorem dX4_copy_21 : decode cX4_copy 21 = .ok (.getfield 10, 3) := by decide +kernel
theorem dX4_copy_24 : decode cX4_copy 24 = .ok (.getfield 47, 3) := by decide +kernel
theorem dX4_copy_27 : decode cX4_copy 27 = .ok (.iload_n 1, 1) := by decide +kernel
theorem dX4_copy_28 : decode cX4_copy 28 = .ok (.iload_n 2, 1) := by decide +kernel
theorem dX4_copy_29 : decode cX4_copy 29 = .ok (.invokevirtual 88, 3) := by decide +kernel
theorem dX4_copy_32 : decode cX4_copy 32 = .ok (.ireturn, 1) := by decide +kernel
theorem dX4_day_0 : decode cX4_day 0 = .ok (.aload_n 0, 1) := by decide +kernel
theorem dX4_day_1 : decode cX4_day 1 = .ok (.getfield 10, 3) := by decide +kernel
theorem dX4_day_4 : decode cX4_day 4 = .ok (.getfield 98, 3) := by decide +kernel
theorem dX4_day_7 : decode cX4_day 7 = .ok (.ireturn, 1) := by decide +kernel
theorem dX4_pass_0 : decode cX4_pass 0 = .ok (.aload_n 0, 1) := by decide +kernel
theorem dX4_pass_1 : decode cX4_pass 1 = .ok (.aload_n 0, 1) := by decide +kernel
theorem dX4_pass_2 : decode cX4_pass 2 = .ok (.iload_n 1, 1) := by decide +kernel
theorem dX4_pass_3 : decode cX4_pass 3 = .ok (.invokevirtual 102, 3) := by decide +kernel
theorem dX4_pass_6 : decode cX4_pass 6 = .ok (.invokevirtual 65, 3) := by decide +kernel
theorem dX4_pass_9 : decode cX4_pass 9 = .ok (.ireturn, 1) := by decide +kernel
theorem dX4_letPass_0 : decode cX4_letPass 0 = .ok (.iload_n 1, 1) := by decide +kernel
theorem dX4_letPass_1 : decode cX4_letPass 1 = .ok (.iconst 1, 1) := by decide +kernel
theorem dX4_letPass_2 : decode cX4_letPass 2 = .ok (.if_icmp .lt 10, 3) := by decide +kernel
theorem dX4_letPass_5 : decode cX4_letPass 5 = .ok (.iload_n 1, 1) := by decide +kernel
theorem dX4_letPass_6 : decode cX4_letPass 6 = .ok (.sipush 400, 3) := by decide +kernel
theorem dX4_letPass_9 : decode cX4_letPass 9 = .ok (.if_icmp .le 5, 3) := by decide +kernel
theorem dX4_letPass_12 : decode cX4_letPass 12 = .ok (.iconst (-1), 1) := by decide +kernel
theorem dX4_letPass_13 : decode cX4_letPass 13 = .ok (.ireturn, 1) := by decide +kernel
theorem dX4_letPass_14 : decode cX4_letPass 14 = .ok (.iconst 0, 1) := by decide +kernel
theorem dX4_letPass_15 : decode cX4_letPass 15 = .ok (.istore_n 2, 1) := by decide +kernel
theorem dX4_letPass_16 : decode cX4_letPass 16 = .ok (.iload_n 2, 1) := by decide +kernel
theorem dX4_letPass_17 : decode cX4_letPass 17 = .ok (.iload_n 1, 1) := by decide +kernel
theorem dX4_letPass_18 : decode cX4_letPass 18 = .ok (.if_icmp .ge 34, 3) := by decide +kernel
theorem dX4_letPass_21 : decode cX4_letPass 21 = .ok (.aload_n 0, 1) := by decide +kernel
theorem dX4_letPass_22 : decode cX4_letPass 22 = .ok (.getfield 10, 3) := by decide +kernel
theorem dX4_letPass_25 : decode cX4_letPass 25 = .ok (.dup, 1) := by decide +kernel
theorem dX4_letPass_26 : decode cX4_letPass 26 = .ok (.getfield 98, 3) := by decide +kernel
theorem dX4_letPass_29 : decode cX4_letPass 29 = .ok (.iconst 1, 1) := by decide +kernel
theorem dX4_letPass_30 : decode cX4_letPass 30 = .ok (.iadd, 1) := by decide +kernel
theorem dX4_letPass_31 : decode cX4_letPass 31 = .ok (.putfield 98, 3) := by decide +kernel
theorem dX4_letPass_34 : decode cX4_letPass 34 = .ok (.aload_n 0, 1) := by decide +kernel
theorem dX4_letPass_35 : decode cX4_letPass 35 = .ok (.invokevirtual 105, 3) := by decide +kernel
theorem dX4_letPass_38 : decode cX4_letPass 38 = .ok (.aload_n 0, 1) := by decide +kernel
theorem dX4_letPass_39 : decode cX4_letPass 39 = .ok (.invokevirtual 108, 3) := by decide +kernel
theorem dX4_letPass_42 : decode cX4_letPass 42 = .ok (.aload_n 0, 1) := by decide +kernel
theorem dX4_letPass_43 : decode cX4_letPass 43 = .ok (.invokevirtual 111, 3) := by decide +kernel
theorem dX4_letPass_46 : decode cX4_letPass 46 = .ok (.iinc 2 1, 3) := by decide +kernel
theorem dX4_letPass_49 : decode cX4_letPass 49 = .ok (.goto (-33), 3) := by decide +kernel
theorem dX4_letPass_52 : decode cX4_letPass 52 = .ok (.aload_n 0, 1) := by decide +kernel
theorem dX4_letPass_53 : decode cX4_letPass 53 = .ok (.getfield 10, 3) := by decide +kernel
theorem dX4_letPass_56 : decode cX4_letPass 56 = .ok (.getfield 98, 3) := by decide +kernel
theorem dX4_letPass_59 : decode cX4_letPass 59 = .ok (.ireturn, 1) := by decide +kernel
theorem dX4_arriveOnThisDay_0 : decode cX4_arriveOnThisDay 0 = .ok (.iconst 0, 1) := by decide +kernel
theorem dX4_arriveOnThisDay_1 : decode cX4_arriveOnThisDay 1 = .ok (.istore_n 1, 1) := by decide +kernel
theorem dX4_arriveOnThisDay_2 : decode cX4_arriveOnThisDay 2 = .ok (.iload_n 1, 1) := by decide +kernel
theorem dX4_arriveOnThisDay_3 : decode cX4_arriveOnThisDay 3 = .ok (.aload_n 0, 1) := by decide +kernel
theorem dX4_arriveOnThisDay_4 : decode cX4_arriveOnThisDay 4 = .ok (.getfield 10, 3) := by decide +kernel
theorem dX4_arriveOnThisDay_7 : decode cX4_arriveOnThisDay 7 = .ok (.getfield 47, 3) := by decide +kernel
theorem dX4_arriveOnThisDay_10 : decode cX4_arriveOnThisDay 10 = .ok (.invokevirtual 92, 3) := by decide +kernel
theorem dX4_arriveOnThisDay_13 : decode cX4_arriveOnThisDay 13 = .ok (.if_icmp .ge 103, 3) := by decide +kernel
theorem dX4_arriveOnThisDay_16 : decode cX4_arriveOnThisDay 16 = .ok (.aload_n 0, 1) := by decide +kernel
theorem dX4_arriveOnThisDay_17 : decode cX4_arriveOnThisDay 17 = .ok (.iload_n 1, 1) := by decide +kernel
theorem dX4_arriveOnThisDay_18 : decode cX4_arriveOnThisDay 18 = .ok (.invokevirtual 95, 3) := by decide +kernel
theorem dX4_arriveOnThisDay_21 : decode cX4_arriveOnThisDay 21 = .ok (.iconst 2, 1) := by decide +kernel
theorem dX4_arriveOnThisDay_22 : decode cX4_arriveOnThisDay 22 = .ok (.if_icmp .ne 88, 3) := by decide +kernel
theorem dX4_arriveOnThisDay_25 : decode cX4_arriveOnThisDay 25 = .ok (.aload_n 0, 1) := by decide +kernel
theorem dX4_arriveOnThisDay_26 : decode cX4_arriveOnThisDay 26 = .ok (.getfield 10, 3) := by decide +kernel
theorem dX4_arriveOnThisDay_29 : decode cX4_arriveOnThisDay 29 = .ok (.getfield 47, 3) := by decide +kernel
theorem dX4_arriveOnThisDay_32 : decode cX4_arriveOnThisDay 32 = .ok (.iload_n 1, 1) := by decide +kernel
theorem dX4_arriveOnThisDay_33 : decode cX4_arriveOnThisDay 33 = .ok (.bipush 6, 2) := by decide +kernel
theorem dX4_arriveOnThisDay_35 : decode cX4_arriveOnThisDay 35 = .ok (.invokevirtual 88, 3) := by decide +kernel
theorem dX4_arriveOnThisDay_38 : decode cX4_arriveOnThisDay 38 = .ok (.aload_n 0, 1) := by decide +kernel
theorem dX4_arriveOnThisDay_39 : decode cX4_arriveOnThisDay 39 = .ok (.getfield 10, 3) := by decide +kernel
theorem dX4_arriveOnThisDay_42 : decode cX4_arriveOnThisDay 42 = .ok (.getfield 98, 3) := by decide +kernel
theorem dX4_arriveOnThisDay_45 : decode cX4_arriveOnThisDay 45 = .ok (.if_icmp .le 6, 3) := by decide +kernel
theorem dX4_arriveOnThisDay_48 : decode cX4_arriveOnThisDay 48 = .ok (.goto 62, 3) := by decide +kernel
theorem dX4_arriveOnThisDay_51 : decode cX4_arriveOnThisDay 51 = .ok (.aload_n 0, 1) := by decide +kernel
theorem dX4_arriveOnThisDay_52 : decode cX4_arriveOnThisDay 52 = .ok (.getfield 10, 3) := by decide +kernel
theorem dX4_arriveOnThisDay_55 : decode cX4_arriveOnThisDay 55 = .ok (.getfield 47, 3) := by decide +kernel
theorem dX4_arriveOnThisDay_58 : decode cX4_arriveOnThisDay 58 = .ok (.iload_n 1, 1) := by decide +kernel
theorem dX4_arriveOnThisDay_59 : decode cX4_arriveOnThisDay 59 = .ok (.iconst 4, 1) := by decide +kernel
theorem dX4_arriveOnThisDay_60 : decode cX4_arriveOnThisDay 60 = .ok (.invokevirtual 88, 3) := by decide +kernel
theorem dX4_arriveOnThisDay_63 : decode cX4_arriveOnThisDay 63 = .ok (.istore_n 2, 1) := by decide +kernel
theorem dX4_arriveOnThisDay_64 : decode cX4_arriveOnThisDay 64 = .ok (.aload_n 0, 1) := by decide +kernel
theorem dX4_arriveOnThisDay_65 : decode cX4_arriveOnThisDay 65 = .ok (.getfield 10, 3) := by decide +kernel
theorem dX4_arriveOnThisDay_68 : decode cX4_arriveOnThisDay 68 = .ok (.getfield 47, 3) := by decide +kernel
theorem dX4_arriveOnThisDay_71 : decode cX4_arriveOnThisDay 71 = .ok (.iload_n 1, 1) := by decide +kernel
theorem dX4_arriveOnThisDay_72 : decode cX4_arriveOnThisDay 72 = .ok (.iconst 5, 1) := by decide +kernel
theorem dX4_arriveOnThisDay_73 : decode cX4_arriveOnThisDay 73 = .ok (.invokevirtual 88, 3) := by decide +kernel
theorem dX4_arriveOnThisDay_76 : decode cX4_arriveOnThisDay 76 = .ok (.bipush (-2), 2) := by decide +kernel
theorem dX4_arriveOnThisDay_78 : decode cX4_arriveOnThisDay 78 = .ok (.if_icmp .ne 12, 3) := by decide +kernel
theorem dX4_arriveOnThisDay_81 : decode cX4_arriveOnThisDay 81 = .ok (.aload_n 0, 1) := by decide +kernel
theorem dX4_arriveOnThisDay_82 : decode cX4_arriveOnThisDay 82 = .ok (.iload_n 1, 1) := by decide +kernel
theorem dX4_arriveOnThisDay_83 : decode cX4_arriveOnThisDay 83 = .ok (.iload_n 2, 1) := by decide +kernel
theorem dX4_arriveOnThisDay_84 : decode cX4_arriveOnThisDay 84 = .ok (.invokevirtual 61, 3) := by decide +kernel
theorem dX4_arriveOnThisDay_87 : decode cX4_arriveOnThisDay 87 = .ok (.goto 23, 3) := by decide +kernel
theorem dX4_arriveOnThisDay_90 : decode cX4_arriveOnThisDay 90 = .ok (.aload_n 0, 1) := by decide +kernel
theorem dX4_arriveOnThisDay_91 : decode cX4_arriveOnThisDay 91 = .ok (.iload_n 1, 1) := by decide +kernel
theorem dX4_arriveOnThisDay_92 : decode cX4_arriveOnThisDay 92 = .ok (.iconst 3, 1) := by decide +kernel
theorem dX4_arriveOnThisDay_93 : decode cX4_arriveOnThisDay 93 = .ok (.iload_n 2, 1) := by decide +kernel
theorem dX4_arriveOnThisDay_94 : decode cX4_arriveOnThisDay 94 = .ok (.aload_n 0, 1) := by decide +kernel
theorem dX4_arriveOnThisDay_95 : decode cX4_arriveOnThisDay 95 = .ok (.getfield 10, 3) := by decide +kernel
theorem dX4_arriveOnThisDay_98 : decode cX4_arriveOnThisDay 98 = .ok (.getfield 98, 3) := by decide +kernel
theorem dX4_arriveOnThisDay_101 : decode cX4_arriveOnThisDay 101 = .ok (.aload_n 0, 1) := by decide +kernel
theorem dX4_arriveOnThisDay_102 : decode cX4_arriveOnThisDay 102 = .ok (.iconst 5, 1) := by decide +kernel
theorem dX4_arriveOnThisDay_103 : decode cX4_arriveOnThisDay 103 = .ok (.invokevirtual 82, 3) := by decide +kernel
theorem dX4_arriveOnThisDay_106 : decode cX4_arriveOnThisDay 106 = .ok (.iadd, 1) := by decide +kernel
theorem dX4_arriveOnThisDay_107 : decode cX4_arriveOnThisDay 107 = .ok (.invokevirtual 114, 3) := by decide +kernel
theorem dX4_arriveOnThisDay_110 : decode cX4_arriveOnThisDay 110 = .ok (.iinc 1 1, 3) := by decide +kernel
theorem dX4_arriveOnThisDay_113 : decode cX4_arriveOnThisDay 113 = .ok (.goto (-111), 3) := by decide +kernel
theorem dX4_arriveOnThisDay_116 : decode cX4_arriveOnThisDay 116 = .ok (.return_, 1) := by decide +kernel
theorem dX4_expireBeforeThisDay_0 : decode cX4_expireBeforeThisDay 0 = .ok (.iconst 0, 1) := by decide +kernel
theorem dX4_expireBeforeThisDay_1 : decode cX4_expireBeforeThisDay 1 = .ok (.istore_n 1, 1) := by decide +kernel
theorem dX4_expireBeforeThisDay_2 : decode cX4_expireBeforeThisDay 2 = .ok (.iload_n 1, 1) := by decide +kernel
theorem dX4_expireBeforeThisDay_3 : decode cX4_expireBeforeThisDay 3 = .ok (.aload_n 0, 1) := by decide +kernel
theorem dX4_expireBeforeThisDay_4 : decode cX4_expireBeforeThisDay 4 = .ok (.getfield 10, 3) := by decide +kernel
theorem dX4_expireBeforeThisDay_7 : decode cX4_expireBeforeThisDay 7 = .ok (.getfield 47, 3) := by decide +kernel
theorem dX4_expireBeforeThisDay_10 : decode cX4_expireBeforeThisDay 10 = .ok (.invokevirtual 92, 3) := by decide +kernel
theorem dX4_expireBeforeThisDay_13 : decode cX4_expireBeforeThisDay 13 = .ok (.if_icmp .ge 86, 3) := by decide +kernel
theorem dX4_expireBeforeThisDay_16 : decode cX4_expireBeforeThisDay 16 = .ok (.aload_n 0, 1) := by decide +kernel
theorem dX4_expireBeforeThisDay_17 : decode cX4_expireBeforeThisDay 17 = .ok (.iload_n 1, 1) := by decide +kernel
theorem dX4_expireBeforeThisDay_18 : decode cX4_expireBeforeThisDay 18 = .ok (.invokevirtual 95, 3) := by decide +kernel
theorem dX4_expireBeforeThisDay_21 : decode cX4_expireBeforeThisDay 21 = .ok (.iconst 3, 1) := by decide +kernel
theorem dX4_expireBeforeThisDay_22 : decode cX4_expireBeforeThisDay 22 = .ok (.if_icmp .ne 71, 3) := by decide +kernel
theorem dX4_expireBeforeThisDay_25 : decode cX4_expireBeforeThisDay 25 = .ok (.aload_n 0, 1) := by decide +kernel
theorem dX4_expireBeforeThisDay_26 : decode cX4_expireBeforeThisDay 26 = .ok (.getfield 10, 3) := by decide +kernel
theorem dX4_expireBeforeThisDay_29 : decode cX4_expireBeforeThisDay 29 = .ok (.getfield 47, 3) := by decide +kernel
theorem dX4_expireBeforeThisDay_32 : decode cX4_expireBeforeThisDay 32 = .ok (.iload_n 1, 1) := by decide +kernel
theorem dX4_expireBeforeThisDay_33 : decode cX4_expireBeforeThisDay 33 = .ok (.bipush 6, 2) := by decide +kernel
theorem dX4_expireBeforeThisDay_35 : decode cX4_expireBeforeThisDay 35 = .ok (.invokevirtual 88, 3) := by decide +kernel
theorem dX4_expireBeforeThisDay_38 : decode cX4_expireBeforeThisDay 38 = .ok (.aload_n 0, 1) := by decide +kernel
theorem dX4_expireBeforeThisDay_39 : decode cX4_expireBeforeThisDay 39 = .ok (.getfield 10, 3) := by decide +kernel
theorem dX4_expireBeforeThisDay_42 : decode cX4_expireBeforeThisDay 42 = .ok (.getfield 98, 3) := by decide +kernel
theorem dX4_expireBeforeThisDay_45 : decode cX4_expireBeforeThisDay 45 = .ok (.if_icmp .lt 6, 3) := by decide +kernel
theorem dX4_expireBeforeThisDay_48 : decode cX4_expireBeforeThisDay 48 = .ok (.goto 45, 3) := by decide +kernel
theorem dX4_expireBeforeThisDay_51 : decode cX4_expireBeforeThisDay 51 = .ok (.aload_n 0, 1) := by decide +kernel
theorem dX4_expireBeforeThisDay_52 : decode cX4_expireBeforeThisDay 52 = .ok (.aload_n 0, 1) := by decide +kernel
theorem dX4_expireBeforeThisDay_53 : decode cX4_expireBeforeThisDay 53 = .ok (.aload_n 0, 1) := by decide +kernel
theorem dX4_expireBeforeThisDay_54 : decode cX4_expireBeforeThisDay 54 = .ok (.getfield 10, 3) := by decide +kernel
theorem dX4_expireBeforeThisDay_57 : decode cX4_expireBeforeThisDay 57 = .ok (.getfield 47, 3) := by decide +kernel
theorem dX4_expireBeforeThisDay_60 : decode cX4_expireBeforeThisDay 60 = .ok (.iload_n 1, 1) := by decide +kernel
theorem dX4_expireBeforeThisDay_61 : decode cX4_expireBeforeThisDay 61 = .ok (.iconst 5, 1) := by decide +kernel
theorem dX4_expireBeforeThisDay_62 : decode cX4_expireBeforeThisDay 62 = .ok (.invokevirtual 88, 3) := by decide +kernel
theorem dX4_expireBeforeThisDay_65 : decode cX4_expireBeforeThisDay 65 = .ok (.aload_n 0, 1) := by decide +kernel
theorem dX4_expireBeforeThisDay_66 : decode cX4_expireBeforeThisDay 66 = .ok (.iload_n 1, 1) := by decide +kernel
theorem dX4_expireBeforeThisDay_67 : decode cX4_expireBeforeThisDay 67 = .ok (.invokevirtual 118, 3) := by decide +kernel
theorem dX4_expireBeforeThisDay_70 : decode cX4_expireBeforeThisDay 70 = .ok (.invokevirtual 121, 3) := by decide +kernel
theorem dX4_expireBeforeThisDay_73 : decode cX4_expireBeforeThisDay 73 = .ok (.invokevirtual 124, 3) := by decide +kernel
theorem dX4_expireBeforeThisDay_76 : decode cX4_expireBeforeThisDay 76 = .ok (.aload_n 0, 1) := by decide +kernel
theorem dX4_expireBeforeThisDay_77 : decode cX4_expireBeforeThisDay 77 = .ok (.iload_n 1, 1) := by decide +kernel
theorem dX4_expireBeforeThisDay_78 : decode cX4_expireBeforeThisDay 78 = .ok (.aload_n 0, 1) := by decide +kernel
theorem dX4_expireBeforeThisDay_79 : decode cX4_expireBeforeThisDay 79 = .ok (.getfield 10, 3) := by decide +kernel
theorem dX4_expireBeforeThisDay_82 : decode cX4_expireBeforeThisDay 82 = .ok (.getfield 47, 3) := by decide +kernel
theorem dX4_expireBeforeThisDay_85 : decode cX4_expireBeforeThisDay 85 = .ok (.iload_n 1, 1) := by decide +kernel
theorem dX4_expireBeforeThisDay_86 : decode cX4_expireBeforeThisDay 86 = .ok (.iconst 4, 1) := by decide +kernel
theorem dX4_expireBeforeThisDay_87 : decode cX4_expireBeforeThisDay 87 = .ok (.invokevirtual 88, 3) := by decide +kernel
theorem dX4_expireBeforeThisDay_90 : decode cX4_expireBeforeThisDay 90 = .ok (.invokevirtual 61, 3) := by decide +kernel
theorem dX4_expireBeforeThisDay_93 : decode cX4_expireBeforeThisDay 93 = .ok (.iinc 1 1, 3) := by decide +kernel
theorem dX4_expireBeforeThisDay_96 : decode cX4_expireBeforeThisDay 96 = .ok (.goto (-94), 3) := by decide +kernel
theorem dX4_expireBeforeThisDay_99 : decode cX4_expireBeforeThisDay 99 = .ok (.return_, 1) := by decide +kernel
theorem dX4_endClaims_0 : decode cX4_endClaims 0 = .ok (.iconst 0, 1) := by decide +kernel
theorem dX4_endClaims_1 : decode cX4_endClaims 1 = .ok (.istore_n 1, 1) := by decide +kernel
theorem dX4_endClaims_2 : decode cX4_endClaims 2 = .ok (.iload_n 1, 1) := by decide +kernel
theorem dX4_endClaims_3 : decode cX4_endClaims 3 = .ok (.aload_n 0, 1) := by decide +kernel
theorem dX4_endClaims_4 : decode cX4_endClaims 4 = .ok (.getfield 10, 3) := by decide +kernel
theorem dX4_endClaims_7 : decode cX4_endClaims 7 = .ok (.getfield 47, 3) := by decide +kernel
theorem dX4_endClaims_10 : decode cX4_endClaims 10 = .ok (.invokevirtual 92, 3) := by decide +kernel
theorem dX4_endClaims_13 : decode cX4_endClaims 13 = .ok (.if_icmp .ge 56, 3) := by decide +kernel
theorem dX4_endClaims_16 : decode cX4_endClaims 16 = .ok (.aload_n 0, 1) := by decide +kernel
theorem dX4_endClaims_17 : decode cX4_endClaims 17 = .ok (.iload_n 1, 1) := by decide +kernel
theorem dX4_endClaims_18 : decode cX4_endClaims 18 = .ok (.invokevirtual 95, 3) := by decide +kernel
theorem dX4_endClaims_21 : decode cX4_endClaims 21 = .ok (.iconst 4, 1) := by decide +kernel
theorem dX4_endClaims_22 : decode cX4_endClaims 22 = .ok (.if_icmp .eq 6, 3) := by decide +kernel
theorem dX4_endClaims_25 : decode cX4_endClaims 25 = .ok (.goto 38, 3) := by decide +kernel
theorem dX4_endClaims_28 : decode cX4_endClaims 28 = .ok (.aload_n 0, 1) := by decide +kernel
theorem dX4_endClaims_29 : decode cX4_endClaims 29 = .ok (.getfield 10, 3) := by decide +kernel
theorem dX4_endClaims_32 : decode cX4_endClaims 32 = .ok (.getfield 98, 3) := by decide +kernel
theorem dX4_endClaims_35 : decode cX4_endClaims 35 = .ok (.aload_n 0, 1) := by decide +kernel
theorem dX4_endClaims_36 : decode cX4_endClaims 36 = .ok (.getfield 10, 3) := by decide +kernel
theorem dX4_endClaims_39 : decode cX4_endClaims 39 = .ok (.getfield 47, 3) := by decide +kernel
theorem dX4_endClaims_42 : decode cX4_endClaims 42 = .ok (.iload_n 1, 1) := by decide +kernel
theorem dX4_endClaims_43 : decode cX4_endClaims 43 = .ok (.bipush 6, 2) := by decide +kernel
theorem dX4_endClaims_45 : decode cX4_endClaims 45 = .ok (.invokevirtual 88, 3) := by decide +kernel
theorem dX4_endClaims_48 : decode cX4_endClaims 48 = .ok (.isub, 1) := by decide +kernel
theorem dX4_endClaims_49 : decode cX4_endClaims 49 = .ok (.aload_n 0, 1) := by decide +kernel
theorem dX4_endClaims_50 : decode cX4_endClaims 50 = .ok (.bipush 7, 2) := by decide +kernel
theorem dX4_endClaims_52 : decode cX4_endClaims 52 = .ok (.invokevirtual 82, 3) := by decide +kernel
theorem dX4_endClaims_55 : decode cX4_endClaims 55 = .ok (.if_icmp .lt 8, 3) := by decide +kernel
theorem dX4_endClaims_58 : decode cX4_endClaims 58 = .ok (.aload_n 0, 1) := by decide +kernel
theorem dX4_endClaims_59 : decode cX4_endClaims 59 = .ok (.iload_n 1, 1) := by decide +kernel
theorem dX4_endClaims_60 : decode cX4_endClaims 60 = .ok (.invokevirtual 128, 3) := by decide +kernel
theorem dX4_endClaims_63 : decode cX4_endClaims 63 = .ok (.iinc 1 1, 3) := by decide +kernel
theorem dX4_endClaims_66 : decode cX4_endClaims 66 = .ok (.goto (-64), 3) := by decide +kernel
theorem dX4_endClaims_69 : decode cX4_endClaims 69 = .ok (.return_, 1) := by decide +kernel
theorem dX4_lend_0 : decode cX4_lend 0 = .ok (.aload_n 0, 1) := by decide +kernel
theorem dX4_lend_1 : decode cX4_lend 1 = .ok (.aload_n 0, 1) := by decide +kernel
theorem dX4_lend_2 : decode cX4_lend 2 = .ok (.iload_n 1, 1) := by decide +kernel
theorem dX4_lend_3 : decode cX4_lend 3 = .ok (.iload_n 2, 1) := by decide +kernel
theorem dX4_lend_4 : decode cX4_lend 4 = .ok (.invokevirtual 131, 3) := by decide +kernel
theorem dX4_lend_7 : decode cX4_lend 7 = .ok (.invokevirtual 65, 3) := by decide +kernel
theorem dX4_lend_10 : decode cX4_lend 10 = .ok (.ireturn, 1) := by decide +kernel
theorem dX4_lendOut_0 : decode cX4_lendOut 0 = .ok (.aload_n 0, 1) := by decide +kernel
theorem dX4_lendOut_1 : decode cX4_lendOut 1 = .ok (.iload_n 1, 1) := by decide +kernel
theorem dX4_lendOut_2 : decode cX4_lendOut 2 = .ok (.iload_n 2, 1) := by decide +kernel
theorem dX4_lendOut_3 : decode cX4_lendOut 3 = .ok (.invokevirtual 134, 3) := by decide +kernel
theorem dX4_lendOut_6 : decode cX4_lendOut 6 = .ok (.istore_n 3, 1) := by decide +kernel
theorem dX4_lendOut_7 : decode cX4_lendOut 7 = .ok (.iload_n 3, 1) := by decide +kernel
theorem dX4_lendOut_8 : decode cX4_lendOut 8 = .ok (.ifCond .eq 8, 3) := by decide +kernel
theorem dX4_lendOut_11 : decode cX4_lendOut 11 = .ok (.iload_n 3, 1) := by decide +kernel
theorem dX4_lendOut_12 : decode cX4_lendOut 12 = .ok (.invokestatic 137, 3) := by decide +kernel
theorem dX4_lendOut_15 : decode cX4_lendOut 15 = .ok (.ireturn, 1) := by decide +kernel
theorem dX4_lendOut_16 : decode cX4_lendOut 16 = .ok (.aload_n 0, 1) := by decide +kernel
theorem dX4_lendOut_17 : decode cX4_lendOut 17 = .ok (.iload_n 2, 1) := by decide +kernel
theorem dX4_lendOut_18 : decode cX4_lendOut 18 = .ok (.invokevirtual 95, 3) := by decide +kernel
theorem dX4_lendOut_21 : decode cX4_lendOut 21 = .ok (.iconst 3, 1) := by decide +kernel
theorem dX4_lendOut_22 : decode cX4_lendOut 22 = .ok (.if_icmp .ne 17, 3) := by decide +kernel
theorem dX4_lendOut_25 : decode cX4_lendOut 25 = .ok (.aload_n 0, 1) := by decide +kernel
theorem dX4_lendOut_26 : decode cX4_lendOut 26 = .ok (.aload_n 0, 1) := by decide +kernel
theorem dX4_lendOut_27 : decode cX4_lendOut 27 = .ok (.iload_n 1, 1) := by decide +kernel
theorem dX4_lendOut_28 : decode cX4_lendOut 28 = .ok (.aload_n 0, 1) := by decide +kernel
theorem dX4_lendOut_29 : decode cX4_lendOut 29 = .ok (.iload_n 2, 1) := by decide +kernel
theorem dX4_lendOut_30 : decode cX4_lendOut 30 = .ok (.invokevirtual 118, 3) := by decide +kernel
theorem dX4_lendOut_33 : decode cX4_lendOut 33 = .ok (.invokevirtual 121, 3) := by decide +kernel
theorem dX4_lendOut_36 : decode cX4_lendOut 36 = .ok (.invokevirtual 124, 3) := by decide +kernel
theorem dX4_lendOut_39 : decode cX4_lendOut 39 = .ok (.aload_n 0, 1) := by decide +kernel
theorem dX4_lendOut_40 : decode cX4_lendOut 40 = .ok (.getfield 10, 3) := by decide +kernel
theorem dX4_lendOut_43 : decode cX4_lendOut 43 = .ok (.getfield 98, 3) := by decide +kernel
theorem dX4_lendOut_46 : decode cX4_lendOut 46 = .ok (.aload_n 0, 1) := by decide +kernel
theorem dX4_lendOut_47 : decode cX4_lendOut 47 = .ok (.iconst 0, 1) := by decide +kernel
theorem dX4_lendOut_48 : decode cX4_lendOut 48 = .ok (.invokevirtual 82, 3) := by decide +kernel
theorem dX4_lendOut_51 : decode cX4_lendOut 51 = .ok (.iadd, 1) := by decide +kernel
theorem dX4_lendOut_52 : decode cX4_lendOut 52 = .ok (.istore 4, 2) := by decide +kernel
theorem dX4_lendOut_54 : decode cX4_lendOut 54 = .ok (.aload_n 0, 1) := by decide +kernel
theorem dX4_lendOut_55 : decode cX4_lendOut 55 = .ok (.iload_n 2, 1) := by decide +kernel
theorem dX4_lendOut_56 : decode cX4_lendOut 56 = .ok (.iconst 1, 1) := by decide +kernel
theorem dX4_lendOut_57 : decode cX4_lendOut 57 = .ok (.iload_n 1, 1) := by decide +kernel
theorem dX4_lendOut_58 : decode cX4_lendOut 58 = .ok (.iload 4, 2) := by decide +kernel
theorem dX4_lendOut_60 : decode cX4_lendOut 60 = .ok (.invokevirtual 114, 3) := by decide +kernel
theorem dX4_lendOut_63 : decode cX4_lendOut 63 = .ok (.aload_n 0, 1) := by decide +kernel
theorem dX4_lendOut_64 : decode cX4_lendOut 64 = .ok (.iload_n 2, 1) := by decide +kernel
theorem dX4_lendOut_65 : decode cX4_lendOut 65 = .ok (.aload_n 0, 1) := by decide +kernel
theorem dX4_lendOut_66 : decode cX4_lendOut 66 = .ok (.getfield 10, 3) := by decide +kernel
theorem dX4_lendOut_69 : decode cX4_lendOut 69 = .ok (.getfield 98, 3) := by decide +kernel
theorem dX4_lendOut_72 : decode cX4_lendOut 72 = .ok (.iconst 0, 1) := by decide +kernel
theorem dX4_lendOut_73 : decode cX4_lendOut 73 = .ok (.iconst 0, 1) := by decide +kernel
theorem dX4_lendOut_74 : decode cX4_lendOut 74 = .ok (.invokevirtual 140, 3) := by decide +kernel
theorem dX4_lendOut_77 : decode cX4_lendOut 77 = .ok (.iload 4, 2) := by decide +kernel
theorem dX4_lendOut_79 : decode cX4_lendOut 79 = .ok (.ireturn, 1) := by decide +kernel
theorem dX4_reasonAgainstLending_0 : decode cX4_reasonAgainstLending 0 = .ok (.aload_n 0, 1) := by decide +kernel
theorem dX4_reasonAgainstLending_1 : decode cX4_reasonAgainstLending 1 = .ok (.iload_n 1, 1) := by decide +kernel
theorem dX4_reasonAgainstLending_2 : decode cX4_reasonAgainstLending 2 = .ok (.invokevirtual 143, 3) := by decide +kernel
theorem dX4_reasonAgainstLending_5 : decode cX4_reasonAgainstLending 5 = .ok (.ifCond .eq 11, 3) := by decide +kernel
theorem dX4_reasonAgainstLending_8 : decode cX4_reasonAgainstLending 8 = .ok (.aload_n 0, 1) := by decide +kernel
theorem dX4_reasonAgainstLending_9 : decode cX4_reasonAgainstLending 9 = .ok (.iload_n 2, 1) := by decide +kernel
theorem dX4_reasonAgainstLending_10 : decode cX4_reasonAgainstLending 10 = .ok (.invokevirtual 85, 3) := by decide +kernel
theorem dX4_reasonAgainstLending_13 : decode cX4_reasonAgainstLending 13 = .ok (.ifCond .ne 5, 3) := by decide +kernel
theorem dX4_reasonAgainstLending_16 : decode cX4_reasonAgainstLending 16 = .ok (.iconst (-1), 1) := by decide +kernel
theorem dX4_reasonAgainstLending_17 : decode cX4_reasonAgainstLending 17 = .ok (.ireturn, 1) := by decide +kernel
theorem dX4_reasonAgainstLending_18 : decode cX4_reasonAgainstLending 18 = .ok (.aload_n 0, 1) := by decide +kernel
theorem dX4_reasonAgainstLending_19 : decode cX4_reasonAgainstLending 19 = .ok (.iload_n 1, 1) := by decide +kernel
theorem dX4_reasonAgainstLending_20 : decode cX4_reasonAgainstLending 20 = .ok (.invokevirtual 146, 3) := by decide +kernel
theorem dX4_reasonAgainstLending_23 : decode cX4_reasonAgainstLending 23 = .ok (.ifCond .eq 5, 3) := by decide +kernel
theorem dX4_reasonAgainstLending_26 : decode cX4_reasonAgainstLending 26 = .ok (.iconst 1, 1) := by decide +kernel
theorem dX4_reasonAgainstLending_27 : decode cX4_reasonAgainstLending 27 = .ok (.ireturn, 1) := by decide +kernel
theorem dX4_reasonAgainstLending_28 : decode cX4_reasonAgainstLending 28 = .ok (.aload_n 0, 1) := by decide +kernel
theorem dX4_reasonAgainstLending_29 : decode cX4_reasonAgainstLending 29 = .ok (.iload_n 1, 1) := by decide +kernel
theorem dX4_reasonAgainstLending_30 : decode cX4_reasonAgainstLending 30 = .ok (.invokevirtual 149, 3) := by decide +kernel
theorem dX4_reasonAgainstLending_33 : decode cX4_reasonAgainstLending 33 = .ok (.aload_n 0, 1) := by decide +kernel
theorem dX4_reasonAgainstLending_34 : decode cX4_reasonAgainstLending 34 = .ok (.iconst 1, 1) := by decide +kernel
theorem dX4_reasonAgainstLending_35 : decode cX4_reasonAgainstLending 35 = .ok (.invokevirtual 82, 3) := by decide +kernel
theorem dX4_reasonAgainstLending_38 : decode cX4_reasonAgainstLending 38 = .ok (.if_icmp .lt 5, 3) := by decide +kernel
theorem dX4_reasonAgainstLending_41 : decode cX4_reasonAgainstLending 41 = .ok (.iconst 2, 1) := by decide +kernel
theorem dX4_reasonAgainstLending_42 : decode cX4_reasonAgainstLending 42 = .ok (.ireturn, 1) := by decide +kernel
theorem dX4_reasonAgainstLending_43 : decode cX4_reasonAgainstLending 43 = .ok (.aload_n 0, 1) := by decide +kernel
theorem dX4_reasonAgainstLending_44 : decode cX4_reasonAgainstLending 44 = .ok (.iload_n 1, 1) := by decide +kernel
theorem dX4_reasonAgainstLending_45 : decode cX4_reasonAgainstLending 45 = .ok (.iload_n 2, 1) := by decide +kernel
theorem dX4_reasonAgainstLending_46 : decode cX4_reasonAgainstLending 46 = .ok (.invokevirtual 152, 3) := by decide +kernel
theorem dX4_reasonAgainstLending_49 : decode cX4_reasonAgainstLending 49 = .ok (.ifCond .eq 7, 3) := by decide +kernel
theorem dX4_reasonAgainstLending_52 : decode cX4_reasonAgainstLending 52 = .ok (.iconst 0, 1) := by decide +kernel
theorem dX4_reasonAgainstLending_53 : decode cX4_reasonAgainstLending 53 = .ok (.goto 4, 3) := by decide +kernel
theorem dX4_reasonAgainstLending_56 : decode cX4_reasonAgainstLending 56 = .ok (.iconst 3, 1) := by decide +kernel
theorem dX4_reasonAgainstLending_57 : decode cX4_reasonAgainstLending 57 = .ok (.ireturn, 1) := by decide +kernel
theorem dX4_canBeTakenBy_0 : decode cX4_canBeTakenBy 0 = .ok (.aload_n 0, 1) := by decide +kernel
theorem dX4_canBeTakenBy_1 : decode cX4_canBeTakenBy 1 = .ok (.iload_n 2, 1) := by decide +kernel
theorem dX4_canBeTakenBy_2 : decode cX4_canBeTakenBy 2 = .ok (.invokevirtual 95, 3) := by decide +kernel
theorem dX4_canBeTakenBy_5 : decode cX4_canBeTakenBy 5 = .ok (.istore_n 3, 1) := by decide +kernel
theorem dX4_canBeTakenBy_6 : decode cX4_canBeTakenBy 6 = .ok (.iload_n 3, 1) := by decide +kernel
theorem dX4_canBeTakenBy_7 : decode cX4_canBeTakenBy 7 = .ok (.ifCond .eq 24, 3) := by decide +kernel
theorem dX4_canBeTakenBy_10 : decode cX4_canBeTakenBy 10 = .ok (.iload_n 3, 1) := by decide +kernel
theorem dX4_canBeTakenBy_11 : decode cX4_canBeTakenBy 11 = .ok (.iconst 3, 1) := by decide +kernel
theorem dX4_canBeTakenBy_12 : decode cX4_canBeTakenBy 12 = .ok (.if_icmp .ne 23, 3) := by decide +kernel
theorem dX4_canBeTakenBy_15 : decode cX4_canBeTakenBy 15 = .ok (.aload_n 0, 1) := by decide +kernel
theorem dX4_canBeTakenBy_16 : decode cX4_canBeTakenBy 16 = .ok (.getfield 10, 3) := by decide +kernel
theorem dX4_canBeTakenBy_19 : decode cX4_canBeTakenBy 19 = .ok (.getfield 47, 3) := by decide +kernel
theorem dX4_canBeTakenBy_22 : decode cX4_canBeTakenBy 22 = .ok (.iload_n 2, 1) := by decide +kernel
theorem dX4_canBeTakenBy_23 : decode cX4_canBeTakenBy 23 = .ok (.iconst 5, 1) := by decide +kernel
theorem dX4_canBeTakenBy_24 : decode cX4_canBeTakenBy 24 = .ok (.invokevirtual 88, 3) := by decide +kernel
theorem dX4_canBeTakenBy_27 : decode cX4_canBeTakenBy 27 = .ok (.iload_n 1, 1) := by decide +kernel
theorem dX4_canBeTakenBy_28 : decode cX4_canBeTakenBy 28 = .ok (.if_icmp .ne 7, 3) := by decide +kernel
theorem dX4_canBeTakenBy_31 : decode cX4_canBeTakenBy 31 = .ok (.iconst 1, 1) := by decide +kernel
theorem dX4_canBeTakenBy_32 : decode cX4_canBeTakenBy 32 = .ok (.goto 4, 3) := by decide +kernel
theorem dX4_canBeTakenBy_35 : decode cX4_canBeTakenBy 35 = .ok (.iconst 0, 1) := by decide +kernel
theorem dX4_canBeTakenBy_36 : decode cX4_canBeTakenBy 36 = .ok (.ireturn, 1) := by decide +kernel
theorem dX4_bringBack_0 : decode cX4_bringBack 0 = .ok (.aload_n 0, 1) := by decide +kernel
theorem dX4_bringBack_1 : decode cX4_bringBack 1 = .ok (.aload_n 0, 1) := by decide +kernel
theorem dX4_bringBack_2 : decode cX4_bringBack 2 = .ok (.iload_n 1, 1) := by decide +kernel
theorem dX4_bringBack_3 : decode cX4_bringBack 3 = .ok (.iload_n 2, 1) := by decide +kernel
theorem dX4_bringBack_4 : decode cX4_bringBack 4 = .ok (.invokevirtual 155, 3) := by decide +kernel
theorem dX4_bringBack_7 : decode cX4_bringBack 7 = .ok (.invokevirtual 65, 3) := by decide +kernel
theorem dX4_bringBack_10 : decode cX4_bringBack 10 = .ok (.ireturn, 1) := by decide +kernel
theorem dX4_takeBack_0 : decode cX4_takeBack 0 = .ok (.aload_n 0, 1) := by decide +kernel
theorem dX4_takeBack_1 : decode cX4_takeBack 1 = .ok (.iload_n 1, 1) := by decide +kernel
theorem dX4_takeBack_2 : decode cX4_takeBack 2 = .ok (.invokevirtual 85, 3) := by decide +kernel
theorem dX4_takeBack_5 : decode cX4_takeBack 5 = .ok (.ifCond .eq 10, 3) := by decide +kernel
theorem dX4_takeBack_8 : decode cX4_takeBack 8 = .ok (.iload_n 2, 1) := by decide +kernel
theorem dX4_takeBack_9 : decode cX4_takeBack 9 = .ok (.invokestatic 44, 3) := by decide +kernel
theorem dX4_takeBack_12 : decode cX4_takeBack 12 = .ok (.ifCond .ne 5, 3) := by decide +kernel
theorem dX4_takeBack_15 : decode cX4_takeBack 15 = .ok (.iconst (-1), 1) := by decide +kernel
theorem dX4_takeBack_16 : decode cX4_takeBack 16 = .ok (.ireturn, 1) := by decide +kernel
theorem dX4_takeBack_17 : decode cX4_takeBack 17 = .ok (.aload_n 0, 1) := by decide +kernel
theorem dX4_takeBack_18 : decode cX4_takeBack 18 = .ok (.iload_n 1, 1) := by decide +kernel
theorem dX4_takeBack_19 : decode cX4_takeBack 19 = .ok (.invokevirtual 158, 3) := by decide +kernel
theorem dX4_takeBack_22 : decode cX4_takeBack 22 = .ok (.ifCond .ne 6, 3) := by decide +kernel
theorem dX4_takeBack_25 : decode cX4_takeBack 25 = .ok (.bipush (-2), 2) := by decide +kernel
theorem dX4_takeBack_27 : decode cX4_takeBack 27 = .ok (.ireturn, 1) := by decide +kernel
theorem dX4_takeBack_28 : decode cX4_takeBack 28 = .ok (.aload_n 0, 1) := by decide +kernel
theorem dX4_takeBack_29 : decode cX4_takeBack 29 = .ok (.getfield 10, 3) := by decide +kernel
theorem dX4_takeBack_32 : decode cX4_takeBack 32 = .ok (.getfield 47, 3) := by decide +kernel
theorem dX4_takeBack_35 : decode cX4_takeBack 35 = .ok (.iload_n 1, 1) := by decide +kernel
theorem dX4_takeBack_36 : decode cX4_takeBack 36 = .ok (.iconst 4, 1) := by decide +kernel
theorem dX4_takeBack_37 : decode cX4_takeBack 37 = .ok (.invokevirtual 88, 3) := by decide +kernel
theorem dX4_takeBack_40 : decode cX4_takeBack 40 = .ok (.istore_n 3, 1) := by decide +kernel
theorem dX4_takeBack_41 : decode cX4_takeBack 41 = .ok (.aload_n 0, 1) := by decide +kernel
theorem dX4_takeBack_42 : decode cX4_takeBack 42 = .ok (.iload_n 1, 1) := by decide +kernel
theorem dX4_takeBack_43 : decode cX4_takeBack 43 = .ok (.invokevirtual 95, 3) := by decide +kernel
theorem dX4_takeBack_46 : decode cX4_takeBack 46 = .ok (.istore 4, 2) := by decide +kernel
theorem dX4_takeBack_48 : decode cX4_takeBack 48 = .ok (.iload 4, 2) := by decide +kernel
theorem dX4_takeBack_50 : decode cX4_takeBack 50 = .ok (.iconst 4, 1) := by decide +kernel
theorem dX4_takeBack_51 : decode cX4_takeBack 51 = .ok (.if_icmp .ne 32, 3) := by decide +kernel
theorem dX4_takeBack_54 : decode cX4_takeBack 54 = .ok (.aload_n 0, 1) := by decide +kernel
theorem dX4_takeBack_55 : decode cX4_takeBack 55 = .ok (.getfield 10, 3) := by decide +kernel
theorem dX4_takeBack_58 : decode cX4_takeBack 58 = .ok (.getfield 69, 3) := by decide +kernel
theorem dX4_takeBack_61 : decode cX4_takeBack 61 = .ok (.iload_n 3, 1) := by decide +kernel
theorem dX4_takeBack_62 : decode cX4_takeBack 62 = .ok (.iconst 1, 1) := by decide +kernel
theorem dX4_takeBack_63 : decode cX4_takeBack 63 = .ok (.aload_n 0, 1) := by decide +kernel
theorem dX4_takeBack_64 : decode cX4_takeBack 64 = .ok (.getfield 10, 3) := by decide +kernel
theorem dX4_takeBack_67 : decode cX4_takeBack 67 = .ok (.getfield 69, 3) := by decide +kernel
theorem dX4_takeBack_70 : decode cX4_takeBack 70 = .ok (.iload_n 3, 1) := by decide +kernel
theorem dX4_takeBack_71 : decode cX4_takeBack 71 = .ok (.iconst 1, 1) := by decide +kernel
theorem dX4_takeBack_72 : decode cX4_takeBack 72 = .ok (.invokevirtual 88, 3) := by decide +kernel
theorem dX4_takeBack_75 : decode cX4_takeBack 75 = .ok (.iconst 1, 1) := by decide +kernel
theorem dX4_takeBack_76 : decode cX4_takeBack 76 = .ok (.isub, 1) := by decide +kernel
theorem dX4_takeBack_77 : decode cX4_takeBack 77 = .ok (.invokevirtual 57, 3) := by decide +kernel
theorem dX4_takeBack_80 : decode cX4_takeBack 80 = .ok (.goto 46, 3) := by decide +kernel
theorem dX4_takeBack_83 : decode cX4_takeBack 83 = .ok (.aload_n 0, 1) := by decide +kernel
theorem dX4_takeBack_84 : decode cX4_takeBack 84 = .ok (.iload_n 1, 1) := by decide +kernel
theorem dX4_takeBack_85 : decode cX4_takeBack 85 = .ok (.invokevirtual 161, 3) := by decide +kernel
theorem dX4_takeBack_88 : decode cX4_takeBack 88 = .ok (.istore 5, 2) := by decide +kernel
theorem dX4_takeBack_90 : decode cX4_takeBack 90 = .ok (.iload 4, 2) := by decide +kernel
theorem dX4_takeBack_92 : decode cX4_takeBack 92 = .ok (.iconst 5, 1) := by decide +kernel
theorem dX4_takeBack_93 : decode cX4_takeBack 93 = .ok (.if_icmp .ne 24, 3) := by decide +kernel
theorem dX4_takeBack_96 : decode cX4_takeBack 96 = .ok (.aload_n 0, 1) := by decide +kernel
theorem dX4_takeBack_97 : decode cX4_takeBack 97 = .ok (.iconst 2, 1) := by decide +kernel
theorem dX4_takeBack_98 : decode cX4_takeBack 98 = .ok (.iload_n 3, 1) := by decide +kernel
theorem dX4_takeBack_99 : decode cX4_takeBack 99 = .ok (.aload_n 0, 1) := by decide +kernel
theorem dX4_takeBack_100 : decode cX4_takeBack 100 = .ok (.getfield 10, 3) := by decide +kernel
theorem dX4_takeBack_103 : decode cX4_takeBack 103 = .ok (.getfield 47, 3) := by decide +kernel
theorem dX4_takeBack_106 : decode cX4_takeBack 106 = .ok (.iload_n 1, 1) := by decide +kernel
theorem dX4_takeBack_107 : decode cX4_takeBack 107 = .ok (.bipush 11, 2) := by decide +kernel
theorem dX4_takeBack_109 : decode cX4_takeBack 109 = .ok (.invokevirtual 88, 3) := by decide +kernel
theorem dX4_takeBack_112 : decode cX4_takeBack 112 = .ok (.ineg, 1) := by decide +kernel
theorem dX4_takeBack_113 : decode cX4_takeBack 113 = .ok (.iload_n 1, 1) := by decide +kernel
theorem dX4_takeBack_114 : decode cX4_takeBack 114 = .ok (.invokevirtual 164, 3) := by decide +kernel
theorem dX4_takeBack_117 : decode cX4_takeBack 117 = .ok (.aload_n 0, 1) := by decide +kernel
theorem dX4_takeBack_118 : decode cX4_takeBack 118 = .ok (.iconst 0, 1) := by decide +kernel
theorem dX4_takeBack_119 : decode cX4_takeBack 119 = .ok (.iload_n 3, 1) := by decide +kernel
theorem dX4_takeBack_120 : decode cX4_takeBack 120 = .ok (.iload 5, 2) := by decide +kernel
theorem dX4_takeBack_122 : decode cX4_takeBack 122 = .ok (.iload_n 1, 1) := by decide +kernel
theorem dX4_takeBack_123 : decode cX4_takeBack 123 = .ok (.invokevirtual 164, 3) := by decide +kernel
theorem dX4_takeBack_126 : decode cX4_takeBack 126 = .ok (.aload_n 0, 1) := by decide +kernel
theorem dX4_takeBack_127 : decode cX4_takeBack 127 = .ok (.iload_n 1, 1) := by decide +kernel
theorem dX4_takeBack_128 : decode cX4_takeBack 128 = .ok (.iload_n 2, 1) := by decide +kernel
theorem dX4_takeBack_129 : decode cX4_takeBack 129 = .ok (.invokevirtual 61, 3) := by decide +kernel
theorem dX4_takeBack_132 : decode cX4_takeBack 132 = .ok (.aload_n 0, 1) := by decide +kernel
theorem dX4_takeBack_133 : decode cX4_takeBack 133 = .ok (.iload_n 1, 1) := by decide +kernel
theorem dX4_takeBack_134 : decode cX4_takeBack 134 = .ok (.invokevirtual 95, 3) := by decide +kernel
theorem dX4_takeBack_137 : decode cX4_takeBack 137 = .ok (.ireturn, 1) := by decide +kernel
theorem dX4_renew_0 : decode cX4_renew 0 = .ok (.aload_n 0, 1) := by decide +kernel
theorem dX4_renew_1 : decode cX4_renew 1 = .ok (.aload_n 0, 1) := by decide +kernel
theorem dX4_renew_2 : decode cX4_renew 2 = .ok (.iload_n 1, 1) := by decide +kernel
theorem dX4_renew_3 : decode cX4_renew 3 = .ok (.invokevirtual 167, 3) := by decide +kernel
theorem dX4_renew_6 : decode cX4_renew 6 = .ok (.invokevirtual 65, 3) := by decide +kernel
theorem dX4_renew_9 : decode cX4_renew 9 = .ok (.ireturn, 1) := by decide +kernel
theorem dX4_renewLoan_0 : decode cX4_renewLoan 0 = .ok (.aload_n 0, 1) := by decide +kernel
theorem dX4_renewLoan_1 : decode cX4_renewLoan 1 = .ok (.iload_n 1, 1) := by decide +kernel
theorem dX4_renewLoan_2 : decode cX4_renewLoan 2 = .ok (.invokevirtual 170, 3) := by decide +kernel
theorem dX4_renewLoan_5 : decode cX4_renewLoan 5 = .ok (.istore_n 2, 1) := by decide +kernel
theorem dX4_renewLoan_6 : decode cX4_renewLoan 6 = .ok (.iload_n 2, 1) := by decide +kernel
theorem dX4_renewLoan_7 : decode cX4_renewLoan 7 = .ok (.ifCond .eq 8, 3) := by decide +kernel
theorem dX4_renewLoan_10 : decode cX4_renewLoan 10 = .ok (.iload_n 2, 1) := by decide +kernel
theorem dX4_renewLoan_11 : decode cX4_renewLoan 11 = .ok (.invokestatic 137, 3) := by decide +kernel
theorem dX4_renewLoan_14 : decode cX4_renewLoan 14 = .ok (.ireturn, 1) := by decide +kernel
theorem dX4_renewLoan_15 : decode cX4_renewLoan 15 = .ok (.aload_n 0, 1) := by decide +kernel
theorem dX4_renewLoan_16 : decode cX4_renewLoan 16 = .ok (.getfield 10, 3) := by decide +kernel
theorem dX4_renewLoan_19 : decode cX4_renewLoan 19 = .ok (.getfield 98, 3) := by decide +kernel
theorem dX4_renewLoan_22 : decode cX4_renewLoan 22 = .ok (.aload_n 0, 1) := by decide +kernel
theorem dX4_renewLoan_23 : decode cX4_renewLoan 23 = .ok (.iconst 0, 1) := by decide +kernel
theorem dX4_renewLoan_24 : decode cX4_renewLoan 24 = .ok (.invokevirtual 82, 3) := by decide +kernel
theorem dX4_renewLoan_27 : decode cX4_renewLoan 27 = .ok (.iadd, 1) := by decide +kernel
theorem dX4_renewLoan_28 : decode cX4_renewLoan 28 = .ok (.istore_n 3, 1) := by decide +kernel
theorem dX4_renewLoan_29 : decode cX4_renewLoan 29 = .ok (.aload_n 0, 1) := by decide +kernel
theorem dX4_renewLoan_30 : decode cX4_renewLoan 30 = .ok (.getfield 10, 3) := by decide +kernel
theorem dX4_renewLoan_33 : decode cX4_renewLoan 33 = .ok (.getfield 47, 3) := by decide +kernel
theorem dX4_renewLoan_36 : decode cX4_renewLoan 36 = .ok (.iload_n 1, 1) := by decide +kernel
theorem dX4_renewLoan_37 : decode cX4_renewLoan 37 = .ok (.bipush 6, 2) := by decide +kernel
theorem dX4_renewLoan_39 : decode cX4_renewLoan 39 = .ok (.iload_n 3, 1) := by decide +kernel
theorem dX4_renewLoan_40 : decode cX4_renewLoan 40 = .ok (.invokevirtual 57, 3) := by decide +kernel
theorem dX4_renewLoan_43 : decode cX4_renewLoan 43 = .ok (.aload_n 0, 1) := by decide +kernel
theorem dX4_renewLoan_44 : decode cX4_renewLoan 44 = .ok (.getfield 10, 3) := by decide +kernel
theorem dX4_renewLoan_47 : decode cX4_renewLoan 47 = .ok (.getfield 47, 3) := by decide +kernel
theorem dX4_renewLoan_50 : decode cX4_renewLoan 50 = .ok (.iload_n 1, 1) := by decide +kernel
theorem dX4_renewLoan_51 : decode cX4_renewLoan 51 = .ok (.bipush 8, 2) := by decide +kernel
theorem dX4_renewLoan_53 : decode cX4_renewLoan 53 = .ok (.aload_n 0, 1) := by decide +kernel
theorem dX4_renewLoan_54 : decode cX4_renewLoan 54 = .ok (.getfield 10, 3) := by decide +kernel
theorem dX4_renewLoan_57 : decode cX4_renewLoan 57 = .ok (.getfield 47, 3) := by decide +kernel
theorem dX4_renewLoan_60 : decode cX4_renewLoan 60 = .ok (.iload_n 1, 1) := by decide +kernel
theorem dX4_renewLoan_61 : decode cX4_renewLoan 61 = .ok (.bipush 8, 2) := by decide +kernel
theorem dX4_renewLoan_63 : decode cX4_renewLoan 63 = .ok (.invokevirtual 88, 3) := by decide +kernel
theorem dX4_renewLoan_66 : decode cX4_renewLoan 66 = .ok (.iconst 1, 1) := by decide +kernel
theorem dX4_renewLoan_67 : decode cX4_renewLoan 67 = .ok (.iadd, 1) := by decide +kernel
theorem dX4_renewLoan_68 : decode cX4_renewLoan 68 = .ok (.invokevirtual 57, 3) := by decide +kernel
theorem dX4_renewLoan_71 : decode cX4_renewLoan 71 = .ok (.iload_n 3, 1) := by decide +kernel
theorem dX4_renewLoan_72 : decode cX4_renewLoan 72 = .ok (.ireturn, 1) := by decide +kernel
theorem dX4_reasonAgainstRenewing_0 : decode cX4_reasonAgainstRenewing 0 = .ok (.aload_n 0, 1) := by decide +kernel
theorem dX4_reasonAgainstRenewing_1 : decode cX4_reasonAgainstRenewing 1 = .ok (.iload_n 1, 1) := by decide +kernel
theorem dX4_reasonAgainstRenewing_2 : decode cX4_reasonAgainstRenewing 2 = .ok (.invokevirtual 85, 3) := by decide +kernel
theorem dX4_reasonAgainstRenewing_5 : decode cX4_reasonAgainstRenewing 5 = .ok (.ifCond .ne 5, 3) := by decide +kernel
theorem dX4_reasonAgainstRenewing_8 : decode cX4_reasonAgainstRenewing 8 = .ok (.iconst (-1), 1) := by decide +kernel
theorem dX4_reasonAgainstRenewing_9 : decode cX4_reasonAgainstRenewing 9 = .ok (.ireturn, 1) := by decide +kernel
theorem dX4_reasonAgainstRenewing_10 : decode cX4_reasonAgainstRenewing 10 = .ok (.aload_n 0, 1) := by decide +kernel
theorem dX4_reasonAgainstRenewing_11 : decode cX4_reasonAgainstRenewing 11 = .ok (.iload_n 1, 1) := by decide +kernel
theorem dX4_reasonAgainstRenewing_12 : decode cX4_reasonAgainstRenewing 12 = .ok (.invokevirtual 95, 3) := by decide +kernel
theorem dX4_reasonAgainstRenewing_15 : decode cX4_reasonAgainstRenewing 15 = .ok (.iconst 1, 1) := by decide +kernel
theorem dX4_reasonAgainstRenewing_16 : decode cX4_reasonAgainstRenewing 16 = .ok (.if_icmp .eq 5, 3) := by decide +kernel
theorem dX4_reasonAgainstRenewing_19 : decode cX4_reasonAgainstRenewing 19 = .ok (.iconst 1, 1) := by decide +kernel
theorem dX4_reasonAgainstRenewing_20 : decode cX4_reasonAgainstRenewing 20 = .ok (.ireturn, 1) := by decide +kernel
theorem dX4_reasonAgainstRenewing_21 : decode cX4_reasonAgainstRenewing 21 = .ok (.aload_n 0, 1) := by decide +kernel
theorem dX4_reasonAgainstRenewing_22 : decode cX4_reasonAgainstRenewing 22 = .ok (.getfield 10, 3) := by decide +kernel
theorem dX4_reasonAgainstRenewing_25 : decode cX4_reasonAgainstRenewing 25 = .ok (.getfield 47, 3) := by decide +kernel
theorem dX4_reasonAgainstRenewing_28 : decode cX4_reasonAgainstRenewing 28 = .ok (.iload_n 1, 1) := by decide +kernel
theorem dX4_reasonAgainstRenewing_29 : decode cX4_reasonAgainstRenewing 29 = .ok (.bipush 8, 2) := by decide +kernel
theorem dX4_reasonAgainstRenewing_31 : decode cX4_reasonAgainstRenewing 31 = .ok (.invokevirtual 88, 3) := by decide +kernel
theorem dX4_reasonAgainstRenewing_34 : decode cX4_reasonAgainstRenewing 34 = .ok (.iconst 2, 1) := by decide +kernel
theorem dX4_reasonAgainstRenewing_35 : decode cX4_reasonAgainstRenewing 35 = .ok (.if_icmp .lt 5, 3) := by decide +kernel
theorem dX4_reasonAgainstRenewing_38 : decode cX4_reasonAgainstRenewing 38 = .ok (.iconst 2, 1) := by decide +kernel
theorem dX4_reasonAgainstRenewing_39 : decode cX4_reasonAgainstRenewing 39 = .ok (.ireturn, 1) := by decide +kernel
theorem dX4_reasonAgainstRenewing_40 : decode cX4_reasonAgainstRenewing 40 = .ok (.aload_n 0, 1) := by decide +kernel
theorem dX4_reasonAgainstRenewing_41 : decode cX4_reasonAgainstRenewing 41 = .ok (.getfield 10, 3) := by decide +kernel
theorem dX4_reasonAgainstRenewing_44 : decode cX4_reasonAgainstRenewing 44 = .ok (.getfield 47, 3) := by decide +kernel
theorem dX4_reasonAgainstRenewing_47 : decode cX4_reasonAgainstRenewing 47 = .ok (.iload_n 1, 1) := by decide +kernel
theorem dX4_reasonAgainstRenewing_48 : decode cX4_reasonAgainstRenewing 48 = .ok (.bipush 9, 2) := by decide +kernel
theorem dX4_reasonAgainstRenewing_50 : decode cX4_reasonAgainstRenewing 50 = .ok (.invokevirtual 88, 3) := by decide +kernel
theorem dX4_reasonAgainstRenewing_53 : decode cX4_reasonAgainstRenewing 53 = .ok (.iconst 1, 1) := by decide +kernel
theorem dX4_reasonAgainstRenewing_54 : decode cX4_reasonAgainstRenewing 54 = .ok (.if_icmp .eq 17, 3) := by decide +kernel
theorem dX4_reasonAgainstRenewing_57 : decode cX4_reasonAgainstRenewing 57 = .ok (.aload_n 0, 1) := by decide +kernel
theorem dX4_reasonAgainstRenewing_58 : decode cX4_reasonAgainstRenewing 58 = .ok (.aload_n 0, 1) := by decide +kernel
theorem dX4_reasonAgainstRenewing_59 : decode cX4_reasonAgainstRenewing 59 = .ok (.iload_n 1, 1) := by decide +kernel
theorem dX4_reasonAgainstRenewing_60 : decode cX4_reasonAgainstRenewing 60 = .ok (.invokevirtual 118, 3) := by decide +kernel
theorem dX4_reasonAgainstRenewing_63 : decode cX4_reasonAgainstRenewing 63 = .ok (.invokevirtual 173, 3) := by decide +kernel
theorem dX4_reasonAgainstRenewing_66 : decode cX4_reasonAgainstRenewing 66 = .ok (.bipush (-2), 2) := by decide +kernel
theorem dX4_reasonAgainstRenewing_68 : decode cX4_reasonAgainstRenewing 68 = .ok (.if_icmp .eq 5, 3) := by decide +kernel
theorem dX4_reasonAgainstRenewing_71 : decode cX4_reasonAgainstRenewing 71 = .ok (.iconst 3, 1) := by decide +kernel
theorem dX4_reasonAgainstRenewing_72 : decode cX4_reasonAgainstRenewing 72 = .ok (.ireturn, 1) := by decide +kernel
theorem dX4_reasonAgainstRenewing_73 : decode cX4_reasonAgainstRenewing 73 = .ok (.aload_n 0, 1) := by decide +kernel
theorem dX4_reasonAgainstRenewing_74 : decode cX4_reasonAgainstRenewing 74 = .ok (.aload_n 0, 1) := by decide +kernel
theorem dX4_reasonAgainstRenewing_75 : decode cX4_reasonAgainstRenewing 75 = .ok (.getfield 10, 3) := by decide +kernel
theorem dX4_reasonAgainstRenewing_78 : decode cX4_reasonAgainstRenewing 78 = .ok (.getfield 47, 3) := by decide +kernel
theorem dX4_reasonAgainstRenewing_81 : decode cX4_reasonAgainstRenewing 81 = .ok (.iload_n 1, 1) := by decide +kernel
theorem dX4_reasonAgainstRenewing_82 : decode cX4_reasonAgainstRenewing 82 = .ok (.iconst 4, 1) := by decide +kernel
theorem dX4_reasonAgainstRenewing_83 : decode cX4_reasonAgainstRenewing 83 = .ok (.invokevirtual 88, 3) := by decide +kernel
theorem dX4_reasonAgainstRenewing_86 : decode cX4_reasonAgainstRenewing 86 = .ok (.invokevirtual 146, 3) := by decide +kernel
theorem dX4_reasonAgainstRenewing_89 : decode cX4_reasonAgainstRenewing 89 = .ok (.ifCond .eq 5, 3) := by decide +kernel
theorem dX4_reasonAgainstRenewing_92 : decode cX4_reasonAgainstRenewing 92 = .ok (.iconst 4, 1) := by decide +kernel
theorem dX4_reasonAgainstRenewing_93 : decode cX4_reasonAgainstRenewing 93 = .ok (.ireturn, 1) := by decide +kernel
theorem dX4_reasonAgainstRenewing_94 : decode cX4_reasonAgainstRenewing 94 = .ok (.aload_n 0, 1) := by decide +kernel
theorem dX4_reasonAgainstRenewing_95 : decode cX4_reasonAgainstRenewing 95 = .ok (.getfield 10, 3) := by decide +kernel
theorem dX4_reasonAgainstRenewing_98 : decode cX4_reasonAgainstRenewing 98 = .ok (.getfield 98, 3) := by decide +kernel
theorem dX4_reasonAgainstRenewing_101 : decode cX4_reasonAgainstRenewing 101 = .ok (.aload_n 0, 1) := by decide +kernel
theorem dX4_reasonAgainstRenewing_102 : decode cX4_reasonAgainstRenewing 102 = .ok (.iconst 0, 1) := by decide +kernel
theorem dX4_reasonAgainstRenewing_103 : decode cX4_reasonAgainstRenewing 103 = .ok (.invokevirtual 82, 3) := by decide +kernel
theorem dX4_reasonAgainstRenewing_106 : decode cX4_reasonAgainstRenewing 106 = .ok (.iadd, 1) := by decide +kernel
theorem dX4_reasonAgainstRenewing_107 : decode cX4_reasonAgainstRenewing 107 = .ok (.aload_n 0, 1) := by decide +kernel
theorem dX4_reasonAgainstRenewing_108 : decode cX4_reasonAgainstRenewing 108 = .ok (.getfield 10, 3) := by decide +kernel
theorem dX4_reasonAgainstRenewing_111 : decode cX4_reasonAgainstRenewing 111 = .ok (.getfield 47, 3) := by decide +kernel
theorem dX4_reasonAgainstRenewing_114 : decode cX4_reasonAgainstRenewing 114 = .ok (.iload_n 1, 1) := by decide +kernel
theorem dX4_reasonAgainstRenewing_115 : decode cX4_reasonAgainstRenewing 115 = .ok (.bipush 6, 2) := by decide +kernel
theorem dX4_reasonAgainstRenewing_117 : decode cX4_reasonAgainstRenewing 117 = .ok (.invokevirtual 88, 3) := by decide +kernel
theorem dX4_reasonAgainstRenewing_120 : decode cX4_reasonAgainstRenewing 120 = .ok (.if_icmp .le 7, 3) := by decide +kernel
theorem dX4_reasonAgainstRenewing_123 : decode cX4_reasonAgainstRenewing 123 = .ok (.iconst 0, 1) := by decide +kernel
theorem dX4_reasonAgainstRenewing_124 : decode cX4_reasonAgainstRenewing 124 = .ok (.goto 4, 3) := by decide +kernel
theorem dX4_reasonAgainstRenewing_127 : decode cX4_reasonAgainstRenewing 127 = .ok (.iconst 5, 1) := by decide +kernel
theorem dX4_reasonAgainstRenewing_128 : decode cX4_reasonAgainstRenewing 128 = .ok (.ireturn, 1) := by decide +kernel
theorem dX4_claim_0 : decode cX4_claim 0 = .ok (.aload_n 0, 1) := by decide +kernel
theorem dX4_claim_1 : decode cX4_claim 1 = .ok (.iload_n 1, 1) := by decide +kernel
theorem dX4_claim_2 : decode cX4_claim 2 = .ok (.invokevirtual 176, 3) := by decide +kernel
theorem dX4_claim_5 : decode cX4_claim 5 = .ok (.istore_n 2, 1) := by decide +kernel
theorem dX4_claim_6 : decode cX4_claim 6 = .ok (.iload_n 2, 1) := by decide +kernel
theorem dX4_claim_7 : decode cX4_claim 7 = .ok (.ifCond .eq 8, 3) := by decide +kernel
theorem dX4_claim_10 : decode cX4_claim 10 = .ok (.iload_n 2, 1) := by decide +kernel
theorem dX4_claim_11 : decode cX4_claim 11 = .ok (.invokestatic 137, 3) := by decide +kernel
theorem dX4_claim_14 : decode cX4_claim 14 = .ok (.ireturn, 1) := by decide +kernel
theorem dX4_claim_15 : decode cX4_claim 15 = .ok (.aload_n 0, 1) := by decide +kernel
theorem dX4_claim_16 : decode cX4_claim 16 = .ok (.getfield 10, 3) := by decide +kernel
theorem dX4_claim_19 : decode cX4_claim 19 = .ok (.getfield 47, 3) := by decide +kernel
theorem dX4_claim_22 : decode cX4_claim 22 = .ok (.iload_n 1, 1) := by decide +kernel
theorem dX4_claim_23 : decode cX4_claim 23 = .ok (.iconst 4, 1) := by decide +kernel
theorem dX4_claim_24 : decode cX4_claim 24 = .ok (.invokevirtual 88, 3) := by decide +kernel
theorem dX4_claim_27 : decode cX4_claim 27 = .ok (.istore_n 3, 1) := by decide +kernel
theorem dX4_claim_28 : decode cX4_claim 28 = .ok (.aload_n 0, 1) := by decide +kernel
theorem dX4_claim_29 : decode cX4_claim 29 = .ok (.iload_n 1, 1) := by decide +kernel
theorem dX4_claim_30 : decode cX4_claim 30 = .ok (.invokevirtual 161, 3) := by decide +kernel
theorem dX4_claim_33 : decode cX4_claim 33 = .ok (.istore 4, 2) := by decide +kernel
theorem dX4_claim_35 : decode cX4_claim 35 = .ok (.aload_n 0, 1) := by decide +kernel
theorem dX4_claim_36 : decode cX4_claim 36 = .ok (.getfield 10, 3) := by decide +kernel
theorem dX4_claim_39 : decode cX4_claim 39 = .ok (.getfield 47, 3) := by decide +kernel
theorem dX4_claim_42 : decode cX4_claim 42 = .ok (.iload_n 1, 1) := by decide +kernel
theorem dX4_claim_43 : decode cX4_claim 43 = .ok (.bipush 10, 2) := by decide +kernel
theorem dX4_claim_45 : decode cX4_claim 45 = .ok (.iload 4, 2) := by decide +kernel
theorem dX4_claim_47 : decode cX4_claim 47 = .ok (.invokevirtual 57, 3) := by decide +kernel
theorem dX4_claim_50 : decode cX4_claim 50 = .ok (.aload_n 0, 1) := by decide +kernel
theorem dX4_claim_51 : decode cX4_claim 51 = .ok (.getfield 10, 3) := by decide +kernel
theorem dX4_claim_54 : decode cX4_claim 54 = .ok (.getfield 69, 3) := by decide +kernel
theorem dX4_claim_57 : decode cX4_claim 57 = .ok (.iload_n 3, 1) := by decide +kernel
theorem dX4_claim_58 : decode cX4_claim 58 = .ok (.iconst 1, 1) := by decide +kernel
theorem dX4_claim_59 : decode cX4_claim 59 = .ok (.aload_n 0, 1) := by decide +kernel
theorem dX4_claim_60 : decode cX4_claim 60 = .ok (.getfield 10, 3) := by decide +kernel
theorem dX4_claim_63 : decode cX4_claim 63 = .ok (.getfield 69, 3) := by decide +kernel
theorem dX4_claim_66 : decode cX4_claim 66 = .ok (.iload_n 3, 1) := by decide +kernel
theorem dX4_claim_67 : decode cX4_claim 67 = .ok (.iconst 1, 1) := by decide +kernel
theorem dX4_claim_68 : decode cX4_claim 68 = .ok (.invokevirtual 88, 3) := by decide +kernel
theorem dX4_claim_71 : decode cX4_claim 71 = .ok (.iconst 1, 1) := by decide +kernel
theorem dX4_claim_72 : decode cX4_claim 72 = .ok (.iadd, 1) := by decide +kernel
theorem dX4_claim_73 : decode cX4_claim 73 = .ok (.invokevirtual 57, 3) := by decide +kernel
theorem dX4_claim_76 : decode cX4_claim 76 = .ok (.aload_n 0, 1) := by decide +kernel
theorem dX4_claim_77 : decode cX4_claim 77 = .ok (.iload_n 1, 1) := by decide +kernel
theorem dX4_claim_78 : decode cX4_claim 78 = .ok (.iconst 4, 1) := by decide +kernel
theorem dX4_claim_79 : decode cX4_claim 79 = .ok (.iload_n 3, 1) := by decide +kernel
theorem dX4_claim_80 : decode cX4_claim 80 = .ok (.aload_n 0, 1) := by decide +kernel
theorem dX4_claim_81 : decode cX4_claim 81 = .ok (.getfield 10, 3) := by decide +kernel
theorem dX4_claim_84 : decode cX4_claim 84 = .ok (.getfield 98, 3) := by decide +kernel
theorem dX4_claim_87 : decode cX4_claim 87 = .ok (.invokevirtual 114, 3) := by decide +kernel
theorem dX4_claim_90 : decode cX4_claim 90 = .ok (.aload_n 0, 1) := by decide +kernel
theorem dX4_claim_91 : decode cX4_claim 91 = .ok (.iload 4, 2) := by decide +kernel
theorem dX4_claim_93 : decode cX4_claim 93 = .ok (.invokevirtual 65, 3) := by decide +kernel
theorem dX4_claim_96 : decode cX4_claim 96 = .ok (.ireturn, 1) := by decide +kernel
theorem dX4_reasonAgainstClaiming_0 : decode cX4_reasonAgainstClaiming 0 = .ok (.aload_n 0, 1) := by decide +kernel
theorem dX4_reasonAgainstClaiming_1 : decode cX4_reasonAgainstClaiming 1 = .ok (.iload_n 1, 1) := by decide +kernel
theorem dX4_reasonAgainstClaiming_2 : decode cX4_reasonAgainstClaiming 2 = .ok (.invokevirtual 85, 3) := by decide +kernel
theorem dX4_reasonAgainstClaiming_5 : decode cX4_reasonAgainstClaiming 5 = .ok (.ifCond .ne 5, 3) := by decide +kernel
theorem dX4_reasonAgainstClaiming_8 : decode cX4_reasonAgainstClaiming 8 = .ok (.iconst (-1), 1) := by decide +kernel
theorem dX4_reasonAgainstClaiming_9 : decode cX4_reasonAgainstClaiming 9 = .ok (.ireturn, 1) := by decide +kernel
theorem dX4_reasonAgainstClaiming_10 : decode cX4_reasonAgainstClaiming 10 = .ok (.aload_n 0, 1) := by decide +kernel
theorem dX4_reasonAgainstClaiming_11 : decode cX4_reasonAgainstClaiming 11 = .ok (.iload_n 1, 1) := by decide +kernel
theorem dX4_reasonAgainstClaiming_12 : decode cX4_reasonAgainstClaiming 12 = .ok (.invokevirtual 95, 3) := by decide +kernel
theorem dX4_reasonAgainstClaiming_15 : decode cX4_reasonAgainstClaiming 15 = .ok (.iconst 1, 1) := by decide +kernel
theorem dX4_reasonAgainstClaiming_16 : decode cX4_reasonAgainstClaiming 16 = .ok (.if_icmp .eq 5, 3) := by decide +kernel
theorem dX4_reasonAgainstClaiming_19 : decode cX4_reasonAgainstClaiming 19 = .ok (.iconst 1, 1) := by decide +kernel
theorem dX4_reasonAgainstClaiming_20 : decode cX4_reasonAgainstClaiming 20 = .ok (.ireturn, 1) := by decide +kernel
theorem dX4_reasonAgainstClaiming_21 : decode cX4_reasonAgainstClaiming 21 = .ok (.aload_n 0, 1) := by decide +kernel
theorem dX4_reasonAgainstClaiming_22 : decode cX4_reasonAgainstClaiming 22 = .ok (.getfield 10, 3) := by decide +kernel
theorem dX4_reasonAgainstClaiming_25 : decode cX4_reasonAgainstClaiming 25 = .ok (.getfield 69, 3) := by decide +kernel
theorem dX4_reasonAgainstClaiming_28 : decode cX4_reasonAgainstClaiming 28 = .ok (.aload_n 0, 1) := by decide +kernel
theorem dX4_reasonAgainstClaiming_29 : decode cX4_reasonAgainstClaiming 29 = .ok (.getfield 10, 3) := by decide +kernel
theorem dX4_reasonAgainstClaiming_32 : decode cX4_reasonAgainstClaiming 32 = .ok (.getfield 47, 3) := by decide +kernel
theorem dX4_reasonAgainstClaiming_35 : decode cX4_reasonAgainstClaiming 35 = .ok (.iload_n 1, 1) := by decide +kernel
theorem dX4_reasonAgainstClaiming_36 : decode cX4_reasonAgainstClaiming 36 = .ok (.iconst 4, 1) := by decide +kernel
theorem dX4_reasonAgainstClaiming_37 : decode cX4_reasonAgainstClaiming 37 = .ok (.invokevirtual 88, 3) := by decide +kernel
theorem dX4_reasonAgainstClaiming_40 : decode cX4_reasonAgainstClaiming 40 = .ok (.iconst 1, 1) := by decide +kernel
theorem dX4_reasonAgainstClaiming_41 : decode cX4_reasonAgainstClaiming 41 = .ok (.invokevirtual 88, 3) := by decide +kernel
theorem dX4_reasonAgainstClaiming_44 : decode cX4_reasonAgainstClaiming 44 = .ok (.istore_n 2, 1) := by decide +kernel
theorem dX4_reasonAgainstClaiming_45 : decode cX4_reasonAgainstClaiming 45 = .ok (.iload_n 2, 1) := by decide +kernel
theorem dX4_reasonAgainstClaiming_46 : decode cX4_reasonAgainstClaiming 46 = .ok (.iconst 2, 1) := by decide +kernel
theorem dX4_reasonAgainstClaiming_47 : decode cX4_reasonAgainstClaiming 47 = .ok (.if_icmp .lt 7, 3) := by decide +kernel
theorem dX4_reasonAgainstClaiming_50 : decode cX4_reasonAgainstClaiming 50 = .ok (.iconst 2, 1) := by decide +kernel
theorem dX4_reasonAgainstClaiming_51 : decode cX4_reasonAgainstClaiming 51 = .ok (.goto 4, 3) := by decide +kernel
theorem dX4_reasonAgainstClaiming_54 : decode cX4_reasonAgainstClaiming 54 = .ok (.iconst 0, 1) := by decide +kernel
theorem dX4_reasonAgainstClaiming_55 : decode cX4_reasonAgainstClaiming 55 = .ok (.ireturn, 1) := by decide +kernel
theorem dX4_lose_0 : decode cX4_lose 0 = .ok (.aload_n 0, 1) := by decide +kernel
theorem dX4_lose_1 : decode cX4_lose 1 = .ok (.iload_n 1, 1) := by decide +kernel
theorem dX4_lose_2 : decode cX4_lose 2 = .ok (.invokevirtual 179, 3) := by decide +kernel
theorem dX4_lose_5 : decode cX4_lose 5 = .ok (.istore_n 2, 1) := by decide +kernel
theorem dX4_lose_6 : decode cX4_lose 6 = .ok (.iload_n 2, 1) := by decide +kernel
theorem dX4_lose_7 : decode cX4_lose 7 = .ok (.ifCond .eq 8, 3) := by decide +kernel
theorem dX4_lose_10 : decode cX4_lose 10 = .ok (.iload_n 2, 1) := by decide +kernel
theorem dX4_lose_11 : decode cX4_lose 11 = .ok (.invokestatic 137, 3) := by decide +kernel
theorem dX4_lose_14 : decode cX4_lose 14 = .ok (.ireturn, 1) := by decide +kernel
theorem dX4_lose_15 : decode cX4_lose 15 = .ok (.aload_n 0, 1) := by decide +kernel
theorem dX4_lose_16 : decode cX4_lose 16 = .ok (.iload_n 1, 1) := by decide +kernel
theorem dX4_lose_17 : decode cX4_lose 17 = .ok (.invokevirtual 128, 3) := by decide +kernel
theorem dX4_lose_20 : decode cX4_lose 20 = .ok (.aload_n 0, 1) := by decide +kernel
theorem dX4_lose_21 : decode cX4_lose 21 = .ok (.invokevirtual 182, 3) := by decide +kernel
theorem dX4_lose_24 : decode cX4_lose 24 = .ok (.aload_n 0, 1) := by decide +kernel
theorem dX4_lose_25 : decode cX4_lose 25 = .ok (.getfield 10, 3) := by decide +kernel
theorem dX4_lose_28 : decode cX4_lose 28 = .ok (.getfield 69, 3) := by decide +kernel
theorem dX4_lose_31 : decode cX4_lose 31 = .ok (.aload_n 0, 1) := by decide +kernel
theorem dX4_lose_32 : decode cX4_lose 32 = .ok (.getfield 10, 3) := by decide +kernel
theorem dX4_lose_35 : decode cX4_lose 35 = .ok (.getfield 47, 3) := by decide +kernel
theorem dX4_lose_38 : decode cX4_lose 38 = .ok (.iload_n 1, 1) := by decide +kernel
theorem dX4_lose_39 : decode cX4_lose 39 = .ok (.iconst 4, 1) := by decide +kernel
theorem dX4_lose_40 : decode cX4_lose 40 = .ok (.invokevirtual 88, 3) := by decide +kernel
theorem dX4_lose_43 : decode cX4_lose 43 = .ok (.iconst 0, 1) := by decide +kernel
theorem dX4_lose_44 : decode cX4_lose 44 = .ok (.invokevirtual 88, 3) := by decide +kernel
theorem dX4_lose_47 : decode cX4_lose 47 = .ok (.ireturn, 1) := by decide +kernel
theorem dX4_reasonAgainstLosing_0 : decode cX4_reasonAgainstLosing 0 = .ok (.aload_n 0, 1) := by decide +kernel
theorem dX4_reasonAgainstLosing_1 : decode cX4_reasonAgainstLosing 1 = .ok (.iload_n 1, 1) := by decide +kernel
theorem dX4_reasonAgainstLosing_2 : decode cX4_reasonAgainstLosing 2 = .ok (.invokevirtual 85, 3) := by decide +kernel
theorem dX4_reasonAgainstLosing_5 : decode cX4_reasonAgainstLosing 5 = .ok (.ifCond .ne 5, 3) := by decide +kernel
theorem dX4_reasonAgainstLosing_8 : decode cX4_reasonAgainstLosing 8 = .ok (.iconst (-1), 1) := by decide +kernel
theorem dX4_reasonAgainstLosing_9 : decode cX4_reasonAgainstLosing 9 = .ok (.ireturn, 1) := by decide +kernel
theorem dX4_reasonAgainstLosing_10 : decode cX4_reasonAgainstLosing 10 = .ok (.aload_n 0, 1) := by decide +kernel
theorem dX4_reasonAgainstLosing_11 : decode cX4_reasonAgainstLosing 11 = .ok (.iload_n 1, 1) := by decide +kernel
theorem dX4_reasonAgainstLosing_12 : decode cX4_reasonAgainstLosing 12 = .ok (.invokevirtual 95, 3) := by decide +kernel
theorem dX4_reasonAgainstLosing_15 : decode cX4_reasonAgainstLosing 15 = .ok (.istore_n 2, 1) := by decide +kernel
theorem dX4_reasonAgainstLosing_16 : decode cX4_reasonAgainstLosing 16 = .ok (.iload_n 2, 1) := by decide +kernel
theorem dX4_reasonAgainstLosing_17 : decode cX4_reasonAgainstLosing 17 = .ok (.iconst 1, 1) := by decide +kernel
theorem dX4_reasonAgainstLosing_18 : decode cX4_reasonAgainstLosing 18 = .ok (.if_icmp .eq 8, 3) := by decide +kernel
theorem dX4_reasonAgainstLosing_21 : decode cX4_reasonAgainstLosing 21 = .ok (.iload_n 2, 1) := by decide +kernel
theorem dX4_reasonAgainstLosing_22 : decode cX4_reasonAgainstLosing 22 = .ok (.iconst 4, 1) := by decide +kernel
theorem dX4_reasonAgainstLosing_23 : decode cX4_reasonAgainstLosing 23 = .ok (.if_icmp .ne 7, 3) := by decide +kernel
theorem dX4_reasonAgainstLosing_26 : decode cX4_reasonAgainstLosing 26 = .ok (.iconst 0, 1) := by decide +kernel
theorem dX4_reasonAgainstLosing_27 : decode cX4_reasonAgainstLosing 27 = .ok (.goto 4, 3) := by decide +kernel
theorem dX4_reasonAgainstLosing_30 : decode cX4_reasonAgainstLosing 30 = .ok (.iconst 1, 1) := by decide +kernel
theorem dX4_reasonAgainstLosing_31 : decode cX4_reasonAgainstLosing 31 = .ok (.ireturn, 1) := by decide +kernel
theorem dX4_hold_0 : decode cX4_hold 0 = .ok (.aload_n 0, 1) := by decide +kernel
theorem dX4_hold_1 : decode cX4_hold 1 = .ok (.aload_n 0, 1) := by decide +kernel
theorem dX4_hold_2 : decode cX4_hold 2 = .ok (.iload_n 1, 1) := by decide +kernel
theorem dX4_hold_3 : decode cX4_hold 3 = .ok (.iload_n 2, 1) := by decide +kernel
theorem dX4_hold_4 : decode cX4_hold 4 = .ok (.iload_n 3, 1) := by decide +kernel
theorem dX4_hold_5 : decode cX4_hold 5 = .ok (.invokevirtual 185, 3) := by decide +kernel
theorem dX4_hold_8 : decode cX4_hold 8 = .ok (.invokevirtual 65, 3) := by decide +kernel
theorem dX4_hold_11 : decode cX4_hold 11 = .ok (.ireturn, 1) := by decide +kernel
theorem dX4_makeHold_0 : decode cX4_makeHold 0 = .ok (.iload_n 3, 1) := by decide +kernel
theorem dX4_makeHold_1 : decode cX4_makeHold 1 = .ok (.invokestatic 44, 3) := by decide +kernel
theorem dX4_makeHold_4 : decode cX4_makeHold 4 = .ok (.ifCond .ne 5, 3) := by decide +kernel
theorem dX4_makeHold_7 : decode cX4_makeHold 7 = .ok (.iconst (-1), 1) := by decide +kernel
theorem dX4_makeHold_8 : decode cX4_makeHold 8 = .ok (.ireturn, 1) := by decide +kernel
theorem dX4_makeHold_9 : decode cX4_makeHold 9 = .ok (.aload_n 0, 1) := by decide +kernel
theorem dX4_makeHold_10 : decode cX4_makeHold 10 = .ok (.iload_n 1, 1) := by decide +kernel
theorem dX4_makeHold_11 : decode cX4_makeHold 11 = .ok (.iload_n 2, 1) := by decide +kernel
theorem dX4_makeHold_12 : decode cX4_makeHold 12 = .ok (.invokevirtual 189, 3) := by decide +kernel
theorem dX4_makeHold_15 : decode cX4_makeHold 15 = .ok (.istore 4, 2) := by decide +kernel
theorem dX4_makeHold_17 : decode cX4_makeHold 17 = .ok (.iload 4, 2) := by decide +kernel
theorem dX4_makeHold_19 : decode cX4_makeHold 19 = .ok (.ifCond .eq 9, 3) := by decide +kernel
theorem dX4_makeHold_22 : decode cX4_makeHold 22 = .ok (.iload 4, 2) := by decide +kernel
theorem dX4_makeHold_24 : decode cX4_makeHold 24 = .ok (.invokestatic 137, 3) := by decide +kernel
theorem dX4_makeHold_27 : decode cX4_makeHold 27 = .ok (.ireturn, 1) := by decide +kernel
theorem dX4_makeHold_28 : decode cX4_makeHold 28 = .ok (.aload_n 0, 1) := by decide +kernel
theorem dX4_makeHold_29 : decode cX4_makeHold 29 = .ok (.getfield 10, 3) := by decide +kernel
theorem dX4_makeHold_32 : decode cX4_makeHold 32 = .ok (.getfield 192, 3) := by decide +kernel
theorem dX4_makeHold_35 : decode cX4_makeHold 35 = .ok (.invokevirtual 51, 3) := by decide +kernel
theorem dX4_makeHold_38 : decode cX4_makeHold 38 = .ok (.istore 5, 2) := by decide +kernel
theorem dX4_makeHold_40 : decode cX4_makeHold 40 = .ok (.iload 5, 2) := by decide +kernel
theorem dX4_makeHold_42 : decode cX4_makeHold 42 = .ok (.ifCond .ge 6, 3) := by decide +kernel
theorem dX4_makeHold_45 : decode cX4_makeHold 45 = .ok (.bipush (-3), 2) := by decide +kernel
theorem dX4_makeHold_47 : decode cX4_makeHold 47 = .ok (.ireturn, 1) := by decide +kernel
theorem dX4_makeHold_48 : decode cX4_makeHold 48 = .ok (.aload_n 0, 1) := by decide +kernel
theorem dX4_makeHold_49 : decode cX4_makeHold 49 = .ok (.getfield 10, 3) := by decide +kernel
theorem dX4_makeHold_52 : decode cX4_makeHold 52 = .ok (.getfield 192, 3) := by decide +kernel
theorem dX4_makeHold_55 : decode cX4_makeHold 55 = .ok (.iload 5, 2) := by decide +kernel
theorem dX4_makeHold_57 : decode cX4_makeHold 57 = .ok (.iconst 0, 1) := by decide +kernel
theorem dX4_makeHold_58 : decode cX4_makeHold 58 = .ok (.iload_n 1, 1) := by decide +kernel
theorem dX4_makeHold_59 : decode cX4_makeHold 59 = .ok (.invokevirtual 57, 3) := by decide +kernel
theorem dX4_makeHold_62 : decode cX4_makeHold 62 = .ok (.aload_n 0, 1) := by decide +kernel
theorem dX4_makeHold_63 : decode cX4_makeHold 63 = .ok (.getfield 10, 3) := by decide +kernel
theorem dX4_makeHold_66 : decode cX4_makeHold 66 = .ok (.getfield 192, 3) := by decide +kernel
theorem dX4_makeHold_69 : decode cX4_makeHold 69 = .ok (.iload 5, 2) := by decide +kernel
theorem dX4_makeHold_71 : decode cX4_makeHold 71 = .ok (.iconst 1, 1) := by decide +kernel
theorem dX4_makeHold_72 : decode cX4_makeHold 72 = .ok (.iload_n 3, 1) := by decide +kernel
theorem dX4_makeHold_73 : decode cX4_makeHold 73 = .ok (.invokevirtual 57, 3) := by decide +kernel
theorem dX4_makeHold_76 : decode cX4_makeHold 76 = .ok (.aload_n 0, 1) := by decide +kernel
theorem dX4_makeHold_77 : decode cX4_makeHold 77 = .ok (.getfield 10, 3) := by decide +kernel
theorem dX4_makeHold_80 : decode cX4_makeHold 80 = .ok (.getfield 192, 3) := by decide +kernel
theorem dX4_makeHold_83 : decode cX4_makeHold 83 = .ok (.iload 5, 2) := by decide +kernel
theorem dX4_makeHold_85 : decode cX4_makeHold 85 = .ok (.iconst 2, 1) := by decide +kernel
theorem dX4_makeHold_86 : decode cX4_makeHold 86 = .ok (.bipush (-2), 2) := by decide +kernel
theorem dX4_makeHold_88 : decode cX4_makeHold 88 = .ok (.invokevirtual 57, 3) := by decide +kernel
theorem dX4_makeHold_91 : decode cX4_makeHold 91 = .ok (.aload_n 0, 1) := by decide +kernel
theorem dX4_makeHold_92 : decode cX4_makeHold 92 = .ok (.getfield 10, 3) := by decide +kernel
theorem dX4_makeHold_95 : decode cX4_makeHold 95 = .ok (.getfield 192, 3) := by decide +kernel
theorem dX4_makeHold_98 : decode cX4_makeHold 98 = .ok (.iload 5, 2) := by decide +kernel
theorem dX4_makeHold_100 : decode cX4_makeHold 100 = .ok (.iconst 3, 1) := by decide +kernel
theorem dX4_makeHold_101 : decode cX4_makeHold 101 = .ok (.iload_n 2, 1) := by decide +kernel
theorem dX4_makeHold_102 : decode cX4_makeHold 102 = .ok (.invokevirtual 57, 3) := by decide +kernel
theorem dX4_makeHold_105 : decode cX4_makeHold 105 = .ok (.aload_n 0, 1) := by decide +kernel
theorem dX4_makeHold_106 : decode cX4_makeHold 106 = .ok (.iload_n 2, 1) := by decide +kernel
theorem dX4_makeHold_107 : decode cX4_makeHold 107 = .ok (.iload_n 3, 1) := by decide +kernel
theorem dX4_makeHold_108 : decode cX4_makeHold 108 = .ok (.invokevirtual 195, 3) := by decide +kernel
theorem dX4_makeHold_111 : decode cX4_makeHold 111 = .ok (.istore 6, 2) := by decide +kernel
theorem dX4_makeHold_113 : decode cX4_makeHold 113 = .ok (.iload 6, 2) := by decide +kernel
theorem dX4_makeHold_115 : decode cX4_makeHold 115 = .ok (.bipush (-2), 2) := by decide +kernel
theorem dX4_makeHold_117 : decode cX4_makeHold 117 = .ok (.if_icmp .ne 11, 3) := by decide +kernel
theorem dX4_makeHold_120 : decode cX4_makeHold 120 = .ok (.aload_n 0, 1) := by decide +kernel
theorem dX4_makeHold_121 : decode cX4_makeHold 121 = .ok (.iload_n 2, 1) := by decide +kernel
theorem dX4_makeHold_122 : decode cX4_makeHold 122 = .ok (.invokevirtual 198, 3) := by decide +kernel
theorem dX4_makeHold_125 : decode cX4_makeHold 125 = .ok (.goto 22, 3) := by decide +kernel
theorem dX4_makeHold_128 : decode cX4_makeHold 128 = .ok (.aload_n 0, 1) := by decide +kernel
theorem dX4_makeHold_129 : decode cX4_makeHold 129 = .ok (.iload 6, 2) := by decide +kernel
theorem dX4_makeHold_131 : decode cX4_makeHold 131 = .ok (.aload_n 0, 1) := by decide +kernel
theorem dX4_makeHold_132 : decode cX4_makeHold 132 = .ok (.getfield 10, 3) := by decide +kernel
theorem dX4_makeHold_135 : decode cX4_makeHold 135 = .ok (.getfield 47, 3) := by decide +kernel
theorem dX4_makeHold_138 : decode cX4_makeHold 138 = .ok (.iload 6, 2) := by decide +kernel
theorem dX4_makeHold_140 : decode cX4_makeHold 140 = .ok (.iconst 4, 1) := by decide +kernel
theorem dX4_makeHold_141 : decode cX4_makeHold 141 = .ok (.invokevirtual 88, 3) := by decide +kernel
theorem dX4_makeHold_144 : decode cX4_makeHold 144 = .ok (.invokevirtual 61, 3) := by decide +kernel
theorem dX4_makeHold_147 : decode cX4_makeHold 147 = .ok (.aload_n 0, 1) := by decide +kernel
theorem dX4_makeHold_148 : decode cX4_makeHold 148 = .ok (.aload_n 0, 1) := by decide +kernel
theorem dX4_makeHold_149 : decode cX4_makeHold 149 = .ok (.getfield 10, 3) := by decide +kernel
theorem dX4_makeHold_152 : decode cX4_makeHold 152 = .ok (.getfield 192, 3) := by decide +kernel
theorem dX4_makeHold_155 : decode cX4_makeHold 155 = .ok (.invokevirtual 92, 3) := by decide +kernel
theorem dX4_makeHold_158 : decode cX4_makeHold 158 = .ok (.iload_n 2, 1) := by decide +kernel
theorem dX4_makeHold_159 : decode cX4_makeHold 159 = .ok (.invokevirtual 201, 3) := by decide +kernel
theorem dX4_makeHold_162 : decode cX4_makeHold 162 = .ok (.ireturn, 1) := by decide +kernel
theorem dX4_reasonAgainstHolding_0 : decode cX4_reasonAgainstHolding 0 = .ok (.aload_n 0, 1) := by decide +kernel
theorem dX4_reasonAgainstHolding_1 : decode cX4_reasonAgainstHolding 1 = .ok (.iload_n 1, 1) := by decide +kernel
theorem dX4_reasonAgainstHolding_2 : decode cX4_reasonAgainstHolding 2 = .ok (.invokevirtual 143, 3) := by decide +kernel
theorem dX4_reasonAgainstHolding_5 : decode cX4_reasonAgainstHolding 5 = .ok (.ifCond .eq 10, 3) := by decide +kernel
theorem dX4_reasonAgainstHolding_8 : decode cX4_reasonAgainstHolding 8 = .ok (.iload_n 2, 1) := by decide +kernel
theorem dX4_reasonAgainstHolding_9 : decode cX4_reasonAgainstHolding 9 = .ok (.invokestatic 40, 3) := by decide +kernel
theorem dX4_reasonAgainstHolding_12 : decode cX4_reasonAgainstHolding 12 = .ok (.ifCond .ne 5, 3) := by decide +kernel
theorem dX4_reasonAgainstHolding_15 : decode cX4_reasonAgainstHolding 15 = .ok (.iconst (-1), 1) := by decide +kernel
theorem dX4_reasonAgainstHolding_16 : decode cX4_reasonAgainstHolding 16 = .ok (.ireturn, 1) := by decide +kernel
theorem dX4_reasonAgainstHolding_17 : decode cX4_reasonAgainstHolding 17 = .ok (.aload_n 0, 1) := by decide +kernel
theorem dX4_reasonAgainstHolding_18 : decode cX4_reasonAgainstHolding 18 = .ok (.iload_n 1, 1) := by decide +kernel
theorem dX4_reasonAgainstHolding_19 : decode cX4_reasonAgainstHolding 19 = .ok (.invokevirtual 146, 3) := by decide +kernel
theorem dX4_reasonAgainstHolding_22 : decode cX4_reasonAgainstHolding 22 = .ok (.ifCond .eq 5, 3) := by decide +kernel
theorem dX4_reasonAgainstHolding_25 : decode cX4_reasonAgainstHolding 25 = .ok (.iconst 1, 1) := by decide +kernel
theorem dX4_reasonAgainstHolding_26 : decode cX4_reasonAgainstHolding 26 = .ok (.ireturn, 1) := by decide +kernel
theorem dX4_reasonAgainstHolding_27 : decode cX4_reasonAgainstHolding 27 = .ok (.aload_n 0, 1) := by decide +kernel
theorem dX4_reasonAgainstHolding_28 : decode cX4_reasonAgainstHolding 28 = .ok (.iload_n 1, 1) := by decide +kernel
theorem dX4_reasonAgainstHolding_29 : decode cX4_reasonAgainstHolding 29 = .ok (.invokevirtual 204, 3) := by decide +kernel
theorem dX4_reasonAgainstHolding_32 : decode cX4_reasonAgainstHolding 32 = .ok (.iconst 3, 1) := by decide +kernel
theorem dX4_reasonAgainstHolding_33 : decode cX4_reasonAgainstHolding 33 = .ok (.if_icmp .lt 5, 3) := by decide +kernel
theorem dX4_reasonAgainstHolding_36 : decode cX4_reasonAgainstHolding 36 = .ok (.iconst 2, 1) := by decide +kernel
theorem dX4_reasonAgainstHolding_37 : decode cX4_reasonAgainstHolding 37 = .ok (.ireturn, 1) := by decide +kernel
theorem dX4_reasonAgainstHolding_38 : decode cX4_reasonAgainstHolding 38 = .ok (.aload_n 0, 1) := by decide +kernel
theorem dX4_reasonAgainstHolding_39 : decode cX4_reasonAgainstHolding 39 = .ok (.iload_n 1, 1) := by decide +kernel
theorem dX4_reasonAgainstHolding_40 : decode cX4_reasonAgainstHolding 40 = .ok (.iload_n 2, 1) := by decide +kernel
theorem dX4_reasonAgainstHolding_41 : decode cX4_reasonAgainstHolding 41 = .ok (.invokevirtual 121, 3) := by decide +kernel
theorem dX4_reasonAgainstHolding_44 : decode cX4_reasonAgainstHolding 44 = .ok (.bipush (-2), 2) := by decide +kernel
theorem dX4_reasonAgainstHolding_46 : decode cX4_reasonAgainstHolding 46 = .ok (.if_icmp .eq 5, 3) := by decide +kernel
theorem dX4_reasonAgainstHolding_49 : decode cX4_reasonAgainstHolding 49 = .ok (.iconst 3, 1) := by decide +kernel
theorem dX4_reasonAgainstHolding_50 : decode cX4_reasonAgainstHolding 50 = .ok (.ireturn, 1) := by decide +kernel
theorem dX4_reasonAgainstHolding_51 : decode cX4_reasonAgainstHolding 51 = .ok (.aload_n 0, 1) := by decide +kernel
theorem dX4_reasonAgainstHolding_52 : decode cX4_reasonAgainstHolding 52 = .ok (.iload_n 1, 1) := by decide +kernel
theorem dX4_reasonAgainstHolding_53 : decode cX4_reasonAgainstHolding 53 = .ok (.iload_n 2, 1) := by decide +kernel
theorem dX4_reasonAgainstHolding_54 : decode cX4_reasonAgainstHolding 54 = .ok (.invokevirtual 207, 3) := by decide +kernel
theorem dX4_reasonAgainstHolding_57 : decode cX4_reasonAgainstHolding 57 = .ok (.ifCond .eq 7, 3) := by decide +kernel
theorem dX4_reasonAgainstHolding_60 : decode cX4_reasonAgainstHolding 60 = .ok (.iconst 4, 1) := by decide +kernel
theorem dX4_reasonAgainstHolding_61 : decode cX4_reasonAgainstHolding 61 = .ok (.goto 4, 3) := by decide +kernel
theorem dX4_reasonAgainstHolding_64 : decode cX4_reasonAgainstHolding 64 = .ok (.iconst 0, 1) := by decide +kernel
theorem dX4_reasonAgainstHolding_65 : decode cX4_reasonAgainstHolding 65 = .ok (.ireturn, 1) := by decide +kernel
theorem dX4_cancelHold_0 : decode cX4_cancelHold 0 = .ok (.aload_n 0, 1) := by decide +kernel
theorem dX4_cancelHold_1 : decode cX4_cancelHold 1 = .ok (.aload_n 0, 1) := by decide +kernel
theorem dX4_cancelHold_2 : decode cX4_cancelHold 2 = .ok (.iload_n 1, 1) := by decide +kernel
theorem dX4_cancelHold_3 : decode cX4_cancelHold 3 = .ok (.iload_n 2, 1) := by decide +kernel
theorem dX4_cancelHold_4 : decode cX4_cancelHold 4 = .ok (.invokevirtual 210, 3) := by decide +kernel
theorem dX4_cancelHold_7 : decode cX4_cancelHold 7 = .ok (.invokevirtual 65, 3) := by decide +kernel
theorem dX4_cancelHold_10 : decode cX4_cancelHold 10 = .ok (.ireturn, 1) := by decide +kernel
theorem dX4_dropHold_0 : decode cX4_dropHold 0 = .ok (.aload_n 0, 1) := by decide +kernel
theorem dX4_dropHold_1 : decode cX4_dropHold 1 = .ok (.iload_n 1, 1) := by decide +kernel
theorem dX4_dropHold_2 : decode cX4_dropHold 2 = .ok (.invokevirtual 143, 3) := by decide +kernel
theorem dX4_dropHold_5 : decode cX4_dropHold 5 = .ok (.ifCond .eq 10, 3) := by decide +kernel
theorem dX4_dropHold_8 : decode cX4_dropHold 8 = .ok (.iload_n 2, 1) := by decide +kernel
theorem dX4_dropHold_9 : decode cX4_dropHold 9 = .ok (.invokestatic 40, 3) := by decide +kernel
theorem dX4_dropHold_12 : decode cX4_dropHold 12 = .ok (.ifCond .ne 5, 3) := by decide +kernel
theorem dX4_dropHold_15 : decode cX4_dropHold 15 = .ok (.iconst (-1), 1) := by decide +kernel
theorem dX4_dropHold_16 : decode cX4_dropHold 16 = .ok (.ireturn, 1) := by decide +kernel
theorem dX4_dropHold_17 : decode cX4_dropHold 17 = .ok (.aload_n 0, 1) := by decide +kernel
theorem dX4_dropHold_18 : decode cX4_dropHold 18 = .ok (.iload_n 1, 1) := by decide +kernel
theorem dX4_dropHold_19 : decode cX4_dropHold 19 = .ok (.iload_n 2, 1) := by decide +kernel
theorem dX4_dropHold_20 : decode cX4_dropHold 20 = .ok (.invokevirtual 121, 3) := by decide +kernel
theorem dX4_dropHold_23 : decode cX4_dropHold 23 = .ok (.istore_n 3, 1) := by decide +kernel
theorem dX4_dropHold_24 : decode cX4_dropHold 24 = .ok (.iload_n 3, 1) := by decide +kernel
theorem dX4_dropHold_25 : decode cX4_dropHold 25 = .ok (.bipush (-2), 2) := by decide +kernel
theorem dX4_dropHold_27 : decode cX4_dropHold 27 = .ok (.if_icmp .ne 6, 3) := by decide +kernel
theorem dX4_dropHold_30 : decode cX4_dropHold 30 = .ok (.bipush (-2), 2) := by decide +kernel
theorem dX4_dropHold_32 : decode cX4_dropHold 32 = .ok (.ireturn, 1) := by decide +kernel
theorem dX4_dropHold_33 : decode cX4_dropHold 33 = .ok (.aload_n 0, 1) := by decide +kernel
theorem dX4_dropHold_34 : decode cX4_dropHold 34 = .ok (.getfield 10, 3) := by decide +kernel
theorem dX4_dropHold_37 : decode cX4_dropHold 37 = .ok (.getfield 192, 3) := by decide +kernel
theorem dX4_dropHold_40 : decode cX4_dropHold 40 = .ok (.iload_n 3, 1) := by decide +kernel
theorem dX4_dropHold_41 : decode cX4_dropHold 41 = .ok (.iconst 2, 1) := by decide +kernel
theorem dX4_dropHold_42 : decode cX4_dropHold 42 = .ok (.invokevirtual 88, 3) := by decide +kernel
theorem dX4_dropHold_45 : decode cX4_dropHold 45 = .ok (.istore 4, 2) := by decide +kernel
theorem dX4_dropHold_47 : decode cX4_dropHold 47 = .ok (.aload_n 0, 1) := by decide +kernel
theorem dX4_dropHold_48 : decode cX4_dropHold 48 = .ok (.iload_n 3, 1) := by decide +kernel
theorem dX4_dropHold_49 : decode cX4_dropHold 49 = .ok (.invokevirtual 124, 3) := by decide +kernel
theorem dX4_dropHold_52 : decode cX4_dropHold 52 = .ok (.iload 4, 2) := by decide +kernel
theorem dX4_dropHold_54 : decode cX4_dropHold 54 = .ok (.bipush (-2), 2) := by decide +kernel
theorem dX4_dropHold_56 : decode cX4_dropHold 56 = .ok (.if_icmp .eq 32, 3) := by decide +kernel
theorem dX4_dropHold_59 : decode cX4_dropHold 59 = .ok (.aload_n 0, 1) := by decide +kernel
theorem dX4_dropHold_60 : decode cX4_dropHold 60 = .ok (.iload 4, 2) := by decide +kernel
theorem dX4_dropHold_62 : decode cX4_dropHold 62 = .ok (.invokevirtual 95, 3) := by decide +kernel
theorem dX4_dropHold_65 : decode cX4_dropHold 65 = .ok (.iconst 3, 1) := by decide +kernel
theorem dX4_dropHold_66 : decode cX4_dropHold 66 = .ok (.if_icmp .ne 22, 3) := by decide +kernel
theorem dX4_dropHold_69 : decode cX4_dropHold 69 = .ok (.aload_n 0, 1) := by decide +kernel
theorem dX4_dropHold_70 : decode cX4_dropHold 70 = .ok (.iload 4, 2) := by decide +kernel
theorem dX4_dropHold_72 : decode cX4_dropHold 72 = .ok (.aload_n 0, 1) := by decide +kernel
theorem dX4_dropHold_73 : decode cX4_dropHold 73 = .ok (.getfield 10, 3) := by decide +kernel
theorem dX4_dropHold_76 : decode cX4_dropHold 76 = .ok (.getfield 47, 3) := by decide +kernel
theorem dX4_dropHold_79 : decode cX4_dropHold 79 = .ok (.iload 4, 2) := by decide +kernel
theorem dX4_dropHold_81 : decode cX4_dropHold 81 = .ok (.iconst 4, 1) := by decide +kernel
theorem dX4_dropHold_82 : decode cX4_dropHold 82 = .ok (.invokevirtual 88, 3) := by decide +kernel
theorem dX4_dropHold_85 : decode cX4_dropHold 85 = .ok (.invokevirtual 61, 3) := by decide +kernel
theorem dX4_dropHold_88 : decode cX4_dropHold 88 = .ok (.aload_n 0, 1) := by decide +kernel
theorem dX4_dropHold_89 : decode cX4_dropHold 89 = .ok (.aload_n 0, 1) := by decide +kernel
theorem dX4_dropHold_90 : decode cX4_dropHold 90 = .ok (.getfield 10, 3) := by decide +kernel
theorem dX4_dropHold_93 : decode cX4_dropHold 93 = .ok (.getfield 192, 3) := by decide +kernel
theorem dX4_dropHold_96 : decode cX4_dropHold 96 = .ok (.invokevirtual 92, 3) := by decide +kernel
theorem dX4_dropHold_99 : decode cX4_dropHold 99 = .ok (.iload_n 2, 1) := by decide +kernel
theorem dX4_dropHold_100 : decode cX4_dropHold 100 = .ok (.invokevirtual 213, 3) := by decide +kernel
theorem dX4_dropHold_103 : decode cX4_dropHold 103 = .ok (.ireturn, 1) := by decide +kernel
theorem dX4_reason_0 : decode cX4_reason 0 = .ok (.iload_n 1, 1) := by decide +kernel
theorem dX4_reason_1 : decode cX4_reason 1 = .ok (.iconst 1, 1) := by decide +kernel
theorem dX4_reason_2 : decode cX4_reason 2 = .ok (.if_icmp .lt 14, 3) := by decide +kernel
theorem dX4_reason_5 : decode cX4_reason 5 = .ok (.iload_n 1, 1) := by decide +kernel
theorem dX4_reason_6 : decode cX4_reason 6 = .ok (.iconst 3, 1) := by decide +kernel
theorem dX4_reason_7 : decode cX4_reason 7 = .ok (.if_icmp .gt 9, 3) := by decide +kernel
theorem dX4_reason_10 : decode cX4_reason 10 = .ok (.iload_n 3, 1) := by decide +kernel
theorem dX4_reason_11 : decode cX4_reason 11 = .ok (.ifCond .eq 5, 3) := by decide +kernel
theorem dX4_reason_14 : decode cX4_reason 14 = .ok (.iconst (-1), 1) := by decide +kernel
theorem dX4_reason_15 : decode cX4_reason 15 = .ok (.ireturn, 1) := by decide +kernel
theorem dX4_reason_16 : decode cX4_reason 16 = .ok (.iload_n 1, 1) := by decide +kernel
theorem dX4_reason_17 : decode cX4_reason 17 = .ok (.tableswitch 67 0 4 #[35, 42, 48, 54, 60], 35) := by decide +kernel
theorem dX4_reason_52 : decode cX4_reason 52 = .ok (.aload_n 0, 1) := by decide +kernel
theorem dX4_reason_53 : decode cX4_reason 53 = .ok (.iload_n 2, 1) := by decide +kernel
theorem dX4_reason_54 : decode cX4_reason 54 = .ok (.iload_n 3, 1) := by decide +kernel
theorem dX4_reason_55 : decode cX4_reason 55 = .ok (.invokevirtual 134, 3) := by decide +kernel
theorem dX4_reason_58 : decode cX4_reason 58 = .ok (.ireturn, 1) := by decide +kernel
theorem dX4_reason_59 : decode cX4_reason 59 = .ok (.aload_n 0, 1) := by decide +kernel
theorem dX4_reason_60 : decode cX4_reason 60 = .ok (.iload_n 2, 1) := by decide +kernel
theorem dX4_reason_61 : decode cX4_reason 61 = .ok (.invokevirtual 170, 3) := by decide +kernel
theorem dX4_reason_64 : decode cX4_reason 64 = .ok (.ireturn, 1) := by decide +kernel
theorem dX4_reason_65 : decode cX4_reason 65 = .ok (.aload_n 0, 1) := by decide +kernel
theorem dX4_reason_66 : decode cX4_reason 66 = .ok (.iload_n 2, 1) := by decide +kernel
theorem dX4_reason_67 : decode cX4_reason 67 = .ok (.invokevirtual 176, 3) := by decide +kernel
theorem dX4_reason_70 : decode cX4_reason 70 = .ok (.ireturn, 1) := by decide +kernel
theorem dX4_reason_71 : decode cX4_reason 71 = .ok (.aload_n 0, 1) := by decide +kernel
theorem dX4_reason_72 : decode cX4_reason 72 = .ok (.iload_n 2, 1) := by decide +kernel
theorem dX4_reason_73 : decode cX4_reason 73 = .ok (.invokevirtual 179, 3) := by decide +kernel
theorem dX4_reason_76 : decode cX4_reason 76 = .ok (.ireturn, 1) := by decide +kernel
theorem dX4_reason_77 : decode cX4_reason 77 = .ok (.aload_n 0, 1) := by decide +kernel
theorem dX4_reason_78 : decode cX4_reason 78 = .ok (.iload_n 2, 1) := by decide +kernel
theorem dX4_reason_79 : decode cX4_reason 79 = .ok (.iload_n 3, 1) := by decide +kernel
theorem dX4_reason_80 : decode cX4_reason 80 = .ok (.invokevirtual 189, 3) := by decide +kernel
theorem dX4_reason_83 : decode cX4_reason 83 = .ok (.ireturn, 1) := by decide +kernel
theorem dX4_reason_84 : decode cX4_reason 84 = .ok (.iconst (-1), 1) := by decide +kernel
theorem dX4_reason_85 : decode cX4_reason 85 = .ok (.ireturn, 1) := by decide +kernel
theorem dX4_holdCount_0 : decode cX4_holdCount 0 = .ok (.iload_n 1, 1) := by decide +kernel
theorem dX4_holdCount_1 : decode cX4_holdCount 1 = .ok (.iconst (-1), 1) := by decide +kernel
theorem dX4_holdCount_2 : decode cX4_holdCount 2 = .ok (.if_icmp .ne 14, 3) := by decide +kernel
theorem dX4_holdCount_5 : decode cX4_holdCount 5 = .ok (.aload_n 0, 1) := by decide +kernel
theorem dX4_holdCount_6 : decode cX4_holdCount 6 = .ok (.getfield 10, 3) := by decide +kernel
theorem dX4_holdCount_9 : decode cX4_holdCount 9 = .ok (.getfield 192, 3) := by decide +kernel
theorem dX4_holdCount_12 : decode cX4_holdCount 12 = .ok (.invokevirtual 92, 3) := by decide +kernel
theorem dX4_holdCount_15 : decode cX4_holdCount 15 = .ok (.ireturn, 1) := by decide +kernel
theorem dX4_holdCount_16 : decode cX4_holdCount 16 = .ok (.iload_n 1, 1) := by decide +kernel
theorem dX4_holdCount_17 : decode cX4_holdCount 17 = .ok (.invokestatic 40, 3) := by decide +kernel
theorem dX4_holdCount_20 : decode cX4_holdCount 20 = .ok (.ifCond .eq 21, 3) := by decide +kernel
theorem dX4_holdCount_23 : decode cX4_holdCount 23 = .ok (.aload_n 0, 1) := by decide +kernel
theorem dX4_holdCount_24 : decode cX4_holdCount 24 = .ok (.aload_n 0, 1) := by decide +kernel
theorem dX4_holdCount_25 : decode cX4_holdCount 25 = .ok (.getfield 10, 3) := by decide +kernel
theorem dX4_holdCount_28 : decode cX4_holdCount 28 = .ok (.getfield 192, 3) := by decide +kernel
theorem dX4_holdCount_31 : decode cX4_holdCount 31 = .ok (.invokevirtual 92, 3) := by decide +kernel
theorem dX4_holdCount_34 : decode cX4_holdCount 34 = .ok (.iload_n 1, 1) := by decide +kernel
theorem dX4_holdCount_35 : decode cX4_holdCount 35 = .ok (.invokevirtual 213, 3) := by decide +kernel
theorem dX4_holdCount_38 : decode cX4_holdCount 38 = .ok (.goto 4, 3) := by decide +kernel
theorem dX4_holdCount_41 : decode cX4_holdCount 41 = .ok (.iconst (-1), 1) := by decide +kernel
theorem dX4_holdCount_42 : decode cX4_holdCount 42 = .ok (.ireturn, 1) := by decide +kernel
theorem dX4_waiting_0 : decode cX4_waiting 0 = .ok (.iload_n 1, 1) := by decide +kernel
theorem dX4_waiting_1 : decode cX4_waiting 1 = .ok (.invokestatic 40, 3) := by decide +kernel
theorem dX4_waiting_4 : decode cX4_waiting 4 = .ok (.ifCond .eq 21, 3) := by decide +kernel
theorem dX4_waiting_7 : decode cX4_waiting 7 = .ok (.aload_n 0, 1) := by decide +kernel
theorem dX4_waiting_8 : decode cX4_waiting 8 = .ok (.aload_n 0, 1) := by decide +kernel
theorem dX4_waiting_9 : decode cX4_waiting 9 = .ok (.getfield 10, 3) := by decide +kernel
theorem dX4_waiting_12 : decode cX4_waiting 12 = .ok (.getfield 192, 3) := by decide +kernel
theorem dX4_waiting_15 : decode cX4_waiting 15 = .ok (.invokevirtual 92, 3) := by decide +kernel
theorem dX4_waiting_18 : decode cX4_waiting 18 = .ok (.iload_n 1, 1) := by decide +kernel
theorem dX4_waiting_19 : decode cX4_waiting 19 = .ok (.invokevirtual 201, 3) := by decide +kernel
theorem dX4_waiting_22 : decode cX4_waiting 22 = .ok (.goto 4, 3) := by decide +kernel
theorem dX4_waiting_25 : decode cX4_waiting 25 = .ok (.iconst (-1), 1) := by decide +kernel
theorem dX4_waiting_26 : decode cX4_waiting 26 = .ok (.ireturn, 1) := by decide +kernel
theorem dX4_holdAt_0 : decode cX4_holdAt 0 = .ok (.iload_n 1, 1) := by decide +kernel
theorem dX4_holdAt_1 : decode cX4_holdAt 1 = .ok (.invokestatic 40, 3) := by decide +kernel
theorem dX4_holdAt_4 : decode cX4_holdAt 4 = .ok (.ifCond .eq 12, 3) := by decide +kernel
theorem dX4_holdAt_7 : decode cX4_holdAt 7 = .ok (.iload_n 3, 1) := by decide +kernel
theorem dX4_holdAt_8 : decode cX4_holdAt 8 = .ok (.ifCond .lt 8, 3) := by decide +kernel
theorem dX4_holdAt_11 : decode cX4_holdAt 11 = .ok (.iload_n 3, 1) := by decide +kernel
theorem dX4_holdAt_12 : decode cX4_holdAt 12 = .ok (.iconst 3, 1) := by decide +kernel
theorem dX4_holdAt_13 : decode cX4_holdAt 13 = .ok (.if_icmp .lt 5, 3) := by decide +kernel
theorem dX4_holdAt_16 : decode cX4_holdAt 16 = .ok (.iconst (-1), 1) := by decide +kernel
theorem dX4_holdAt_17 : decode cX4_holdAt 17 = .ok (.ireturn, 1) := by decide +kernel
theorem dX4_holdAt_18 : decode cX4_holdAt 18 = .ok (.iconst 0, 1) := by decide +kernel
theorem dX4_holdAt_19 : decode cX4_holdAt 19 = .ok (.istore 4, 2) := by decide +kernel
theorem dX4_holdAt_21 : decode cX4_holdAt 21 = .ok (.iconst 0, 1) := by decide +kernel
theorem dX4_holdAt_22 : decode cX4_holdAt 22 = .ok (.istore 5, 2) := by decide +kernel
theorem dX4_holdAt_24 : decode cX4_holdAt 24 = .ok (.iload 5, 2) := by decide +kernel
theorem dX4_holdAt_26 : decode cX4_holdAt 26 = .ok (.aload_n 0, 1) := by decide +kernel
theorem dX4_holdAt_27 : decode cX4_holdAt 27 = .ok (.getfield 10, 3) := by decide +kernel
theorem dX4_holdAt_30 : decode cX4_holdAt 30 = .ok (.getfield 192, 3) := by decide +kernel
theorem dX4_holdAt_33 : decode cX4_holdAt 33 = .ok (.invokevirtual 92, 3) := by decide +kernel
theorem dX4_holdAt_36 : decode cX4_holdAt 36 = .ok (.if_icmp .ge 52, 3) := by decide +kernel
theorem dX4_holdAt_39 : decode cX4_holdAt 39 = .ok (.aload_n 0, 1) := by decide +kernel
theorem dX4_holdAt_40 : decode cX4_holdAt 40 = .ok (.getfield 10, 3) := by decide +kernel
theorem dX4_holdAt_43 : decode cX4_holdAt 43 = .ok (.getfield 192, 3) := by decide +kernel
theorem dX4_holdAt_46 : decode cX4_holdAt 46 = .ok (.iload 5, 2) := by decide +kernel
theorem dX4_holdAt_48 : decode cX4_holdAt 48 = .ok (.iconst 3, 1) := by decide +kernel
theorem dX4_holdAt_49 : decode cX4_holdAt 49 = .ok (.invokevirtual 88, 3) := by decide +kernel
theorem dX4_holdAt_52 : decode cX4_holdAt 52 = .ok (.iload_n 1, 1) := by decide +kernel
theorem dX4_holdAt_53 : decode cX4_holdAt 53 = .ok (.if_icmp .eq 6, 3) := by decide +kernel
theorem dX4_holdAt_56 : decode cX4_holdAt 56 = .ok (.goto 26, 3) := by decide +kernel
theorem dX4_holdAt_59 : decode cX4_holdAt 59 = .ok (.iload 4, 2) := by decide +kernel
theorem dX4_holdAt_61 : decode cX4_holdAt 61 = .ok (.iload_n 2, 1) := by decide +kernel
theorem dX4_holdAt_62 : decode cX4_holdAt 62 = .ok (.if_icmp .ne 17, 3) := by decide +kernel
theorem dX4_holdAt_65 : decode cX4_holdAt 65 = .ok (.aload_n 0, 1) := by decide +kernel
theorem dX4_holdAt_66 : decode cX4_holdAt 66 = .ok (.getfield 10, 3) := by decide +kernel
theorem dX4_holdAt_69 : decode cX4_holdAt 69 = .ok (.getfield 192, 3) := by decide +kernel
theorem dX4_holdAt_72 : decode cX4_holdAt 72 = .ok (.iload 5, 2) := by decide +kernel
theorem dX4_holdAt_74 : decode cX4_holdAt 74 = .ok (.iload_n 3, 1) := by decide +kernel
theorem dX4_holdAt_75 : decode cX4_holdAt 75 = .ok (.invokevirtual 88, 3) := by decide +kernel
theorem dX4_holdAt_78 : decode cX4_holdAt 78 = .ok (.ireturn, 1) := by decide +kernel
theorem dX4_holdAt_79 : decode cX4_holdAt 79 = .ok (.iinc 4 1, 3) := by decide +kernel
theorem dX4_holdAt_82 : decode cX4_holdAt 82 = .ok (.iinc 5 1, 3) := by decide +kernel
theorem dX4_holdAt_85 : decode cX4_holdAt 85 = .ok (.goto (-61), 3) := by decide +kernel
theorem dX4_holdAt_88 : decode cX4_holdAt 88 = .ok (.bipush (-2), 2) := by decide +kernel
theorem dX4_holdAt_90 : decode cX4_holdAt 90 = .ok (.ireturn, 1) := by decide +kernel
theorem dX4_place_0 : decode cX4_place 0 = .ok (.aload_n 0, 1) := by decide +kernel
theorem dX4_place_1 : decode cX4_place 1 = .ok (.iload_n 1, 1) := by decide +kernel
theorem dX4_place_2 : decode cX4_place 2 = .ok (.invokevirtual 143, 3) := by decide +kernel
theorem dX4_place_5 : decode cX4_place 5 = .ok (.ifCond .eq 10, 3) := by decide +kernel
theorem dX4_place_8 : decode cX4_place 8 = .ok (.iload_n 2, 1) := by decide +kernel
theorem dX4_place_9 : decode cX4_place 9 = .ok (.invokestatic 40, 3) := by decide +kernel
theorem dX4_place_12 : decode cX4_place 12 = .ok (.ifCond .ne 5, 3) := by decide +kernel
theorem dX4_place_15 : decode cX4_place 15 = .ok (.iconst (-1), 1) := by decide +kernel
theorem dX4_place_16 : decode cX4_place 16 = .ok (.ireturn, 1) := by decide +kernel
theorem dX4_place_17 : decode cX4_place 17 = .ok (.aload_n 0, 1) := by decide +kernel
theorem dX4_place_18 : decode cX4_place 18 = .ok (.iload_n 1, 1) := by decide +kernel
theorem dX4_place_19 : decode cX4_place 19 = .ok (.iload_n 2, 1) := by decide +kernel
theorem dX4_place_20 : decode cX4_place 20 = .ok (.invokevirtual 121, 3) := by decide +kernel
theorem dX4_place_23 : decode cX4_place 23 = .ok (.istore_n 3, 1) := by decide +kernel
theorem dX4_place_24 : decode cX4_place 24 = .ok (.iload_n 3, 1) := by decide +kernel
theorem dX4_place_25 : decode cX4_place 25 = .ok (.bipush (-2), 2) := by decide +kernel
theorem dX4_place_27 : decode cX4_place 27 = .ok (.if_icmp .ne 8, 3) := by decide +kernel
theorem dX4_place_30 : decode cX4_place 30 = .ok (.bipush (-2), 2) := by decide +kernel
theorem dX4_place_32 : decode cX4_place 32 = .ok (.goto 9, 3) := by decide +kernel
theorem dX4_place_35 : decode cX4_place 35 = .ok (.aload_n 0, 1) := by decide +kernel
theorem dX4_place_36 : decode cX4_place 36 = .ok (.iload_n 3, 1) := by decide +kernel
theorem dX4_place_37 : decode cX4_place 37 = .ok (.iload_n 2, 1) := by decide +kernel
theorem dX4_place_38 : decode cX4_place 38 = .ok (.invokevirtual 213, 3) := by decide +kernel
theorem dX4_place_41 : decode cX4_place 41 = .ok (.ireturn, 1) := by decide +kernel
theorem dX4_estimate_0 : decode cX4_estimate 0 = .ok (.aload_n 0, 1) := by decide +kernel
theorem dX4_estimate_1 : decode cX4_estimate 1 = .ok (.iload_n 1, 1) := by decide +kernel
theorem dX4_estimate_2 : decode cX4_estimate 2 = .ok (.invokevirtual 143, 3) := by decide +kernel
theorem dX4_estimate_5 : decode cX4_estimate 5 = .ok (.ifCond .eq 10, 3) := by decide +kernel
theorem dX4_estimate_8 : decode cX4_estimate 8 = .ok (.iload_n 2, 1) := by decide +kernel
theorem dX4_estimate_9 : decode cX4_estimate 9 = .ok (.invokestatic 40, 3) := by decide +kernel
theorem dX4_estimate_12 : decode cX4_estimate 12 = .ok (.ifCond .ne 5, 3) := by decide +kernel
theorem dX4_estimate_15 : decode cX4_estimate 15 = .ok (.iconst (-1), 1) := by decide +kernel
theorem dX4_estimate_16 : decode cX4_estimate 16 = .ok (.ireturn, 1) := by decide +kernel
theorem dX4_estimate_17 : decode cX4_estimate 17 = .ok (.aload_n 0, 1) := by decide +kernel
theorem dX4_estimate_18 : decode cX4_estimate 18 = .ok (.iload_n 1, 1) := by decide +kernel
theorem dX4_estimate_19 : decode cX4_estimate 19 = .ok (.iload_n 2, 1) := by decide +kernel
theorem dX4_estimate_20 : decode cX4_estimate 20 = .ok (.invokevirtual 121, 3) := by decide +kernel
theorem dX4_estimate_23 : decode cX4_estimate 23 = .ok (.istore_n 3, 1) := by decide +kernel
theorem dX4_estimate_24 : decode cX4_estimate 24 = .ok (.iload_n 3, 1) := by decide +kernel
theorem dX4_estimate_25 : decode cX4_estimate 25 = .ok (.bipush (-2), 2) := by decide +kernel
theorem dX4_estimate_27 : decode cX4_estimate 27 = .ok (.if_icmp .eq 20, 3) := by decide +kernel
theorem dX4_estimate_30 : decode cX4_estimate 30 = .ok (.aload_n 0, 1) := by decide +kernel
theorem dX4_estimate_31 : decode cX4_estimate 31 = .ok (.getfield 10, 3) := by decide +kernel
theorem dX4_estimate_34 : decode cX4_estimate 34 = .ok (.getfield 192, 3) := by decide +kernel
theorem dX4_estimate_37 : decode cX4_estimate 37 = .ok (.iload_n 3, 1) := by decide +kernel
theorem dX4_estimate_38 : decode cX4_estimate 38 = .ok (.iconst 2, 1) := by decide +kernel
theorem dX4_estimate_39 : decode cX4_estimate 39 = .ok (.invokevirtual 88, 3) := by decide +kernel
theorem dX4_estimate_42 : decode cX4_estimate 42 = .ok (.bipush (-2), 2) := by decide +kernel
theorem dX4_estimate_44 : decode cX4_estimate 44 = .ok (.if_icmp .eq 6, 3) := by decide +kernel
theorem dX4_estimate_47 : decode cX4_estimate 47 = .ok (.bipush (-2), 2) := by decide +kernel
theorem dX4_estimate_49 : decode cX4_estimate 49 = .ok (.ireturn, 1) := by decide +kernel
theorem dX4_estimate_50 : decode cX4_estimate 50 = .ok (.aload_n 0, 1) := by decide +kernel
theorem dX4_estimate_51 : decode cX4_estimate 51 = .ok (.iload_n 3, 1) := by decide +kernel
theorem dX4_estimate_52 : decode cX4_estimate 52 = .ok (.iload_n 2, 1) := by decide +kernel
theorem dX4_estimate_53 : decode cX4_estimate 53 = .ok (.invokevirtual 201, 3) := by decide +kernel
theorem dX4_estimate_56 : decode cX4_estimate 56 = .ok (.istore 4, 2) := by decide +kernel
theorem dX4_estimate_58 : decode cX4_estimate 58 = .ok (.iconst 0, 1) := by decide +kernel
theorem dX4_estimate_59 : decode cX4_estimate 59 = .ok (.istore 5, 2) := by decide +kernel
theorem dX4_estimate_61 : decode cX4_estimate 61 = .ok (.iload 5, 2) := by decide +kernel
theorem dX4_estimate_63 : decode cX4_estimate 63 = .ok (.aload_n 0, 1) := by decide +kernel
theorem dX4_estimate_64 : decode cX4_estimate 64 = .ok (.getfield 10, 3) := by decide +kernel
theorem dX4_estimate_67 : decode cX4_estimate 67 = .ok (.getfield 47, 3) := by decide +kernel
theorem dX4_estimate_70 : decode cX4_estimate 70 = .ok (.invokevirtual 92, 3) := by decide +kernel
theorem dX4_estimate_73 : decode cX4_estimate 73 = .ok (.if_icmp .ge 42, 3) := by decide +kernel
theorem dX4_estimate_76 : decode cX4_estimate 76 = .ok (.aload_n 0, 1) := by decide +kernel
theorem dX4_estimate_77 : decode cX4_estimate 77 = .ok (.iload 5, 2) := by decide +kernel
theorem dX4_estimate_79 : decode cX4_estimate 79 = .ok (.iload_n 2, 1) := by decide +kernel
theorem dX4_estimate_80 : decode cX4_estimate 80 = .ok (.invokevirtual 216, 3) := by decide +kernel
theorem dX4_estimate_83 : decode cX4_estimate 83 = .ok (.istore 6, 2) := by decide +kernel
theorem dX4_estimate_85 : decode cX4_estimate 85 = .ok (.iload 6, 2) := by decide +kernel
theorem dX4_estimate_87 : decode cX4_estimate 87 = .ok (.bipush (-2), 2) := by decide +kernel
theorem dX4_estimate_89 : decode cX4_estimate 89 = .ok (.if_icmp .eq 20, 3) := by decide +kernel
theorem dX4_estimate_92 : decode cX4_estimate 92 = .ok (.aload_n 0, 1) := by decide +kernel
theorem dX4_estimate_93 : decode cX4_estimate 93 = .ok (.iload 6, 2) := by decide +kernel
theorem dX4_estimate_95 : decode cX4_estimate 95 = .ok (.iload 5, 2) := by decide +kernel
theorem dX4_estimate_97 : decode cX4_estimate 97 = .ok (.iload_n 2, 1) := by decide +kernel
theorem dX4_estimate_98 : decode cX4_estimate 98 = .ok (.invokevirtual 219, 3) := by decide +kernel
theorem dX4_estimate_101 : decode cX4_estimate 101 = .ok (.iload 4, 2) := by decide +kernel
theorem dX4_estimate_103 : decode cX4_estimate 103 = .ok (.if_icmp .ne 6, 3) := by decide +kernel
theorem dX4_estimate_106 : decode cX4_estimate 106 = .ok (.iload 6, 2) := by decide +kernel
theorem dX4_estimate_108 : decode cX4_estimate 108 = .ok (.ireturn, 1) := by decide +kernel
theorem dX4_estimate_109 : decode cX4_estimate 109 = .ok (.iinc 5 1, 3) := by decide +kernel
theorem dX4_estimate_112 : decode cX4_estimate 112 = .ok (.goto (-51), 3) := by decide +kernel
theorem dX4_estimate_115 : decode cX4_estimate 115 = .ok (.bipush (-2), 2) := by decide +kernel
theorem dX4_estimate_117 : decode cX4_estimate 117 = .ok (.ireturn, 1) := by decide +kernel
theorem dX4_expectedDay_0 : decode cX4_expectedDay 0 = .ok (.aload_n 0, 1) := by decide +kernel
theorem dX4_expectedDay_1 : decode cX4_expectedDay 1 = .ok (.iload_n 1, 1) := by decide +kernel
theorem dX4_expectedDay_2 : decode cX4_expectedDay 2 = .ok (.invokevirtual 118, 3) := by decide +kernel
theorem dX4_expectedDay_5 : decode cX4_expectedDay 5 = .ok (.iload_n 2, 1) := by decide +kernel
theorem dX4_expectedDay_6 : decode cX4_expectedDay 6 = .ok (.if_icmp .eq 6, 3) := by decide +kernel
theorem dX4_expectedDay_9 : decode cX4_expectedDay 9 = .ok (.bipush (-2), 2) := by decide +kernel
theorem dX4_expectedDay_11 : decode cX4_expectedDay 11 = .ok (.ireturn, 1) := by decide +kernel
theorem dX4_expectedDay_12 : decode cX4_expectedDay 12 = .ok (.aload_n 0, 1) := by decide +kernel
theorem dX4_expectedDay_13 : decode cX4_expectedDay 13 = .ok (.getfield 10, 3) := by decide +kernel
theorem dX4_expectedDay_16 : decode cX4_expectedDay 16 = .ok (.getfield 47, 3) := by decide +kernel
theorem dX4_expectedDay_19 : decode cX4_expectedDay 19 = .ok (.iload_n 1, 1) := by decide +kernel
theorem dX4_expectedDay_20 : decode cX4_expectedDay 20 = .ok (.bipush 6, 2) := by decide +kernel
theorem dX4_expectedDay_22 : decode cX4_expectedDay 22 = .ok (.invokevirtual 88, 3) := by decide +kernel
theorem dX4_expectedDay_25 : decode cX4_expectedDay 25 = .ok (.istore_n 3, 1) := by decide +kernel
theorem dX4_expectedDay_26 : decode cX4_expectedDay 26 = .ok (.aload_n 0, 1) := by decide +kernel
theorem dX4_expectedDay_27 : decode cX4_expectedDay 27 = .ok (.iload_n 1, 1) := by decide +kernel
theorem dX4_expectedDay_28 : decode cX4_expectedDay 28 = .ok (.invokevirtual 95, 3) := by decide +kernel
theorem dX4_expectedDay_31 : decode cX4_expectedDay 31 = .ok (.iconst 1, 1) := by decide +kernel
theorem dX4_expectedDay_32 : decode cX4_expectedDay 32 = .ok (.if_icmp .ne 15, 3) := by decide +kernel
theorem dX4_expectedDay_35 : decode cX4_expectedDay 35 = .ok (.iload_n 3, 1) := by decide +kernel
theorem dX4_expectedDay_36 : decode cX4_expectedDay 36 = .ok (.aload_n 0, 1) := by decide +kernel
theorem dX4_expectedDay_37 : decode cX4_expectedDay 37 = .ok (.getfield 10, 3) := by decide +kernel
theorem dX4_expectedDay_40 : decode cX4_expectedDay 40 = .ok (.getfield 98, 3) := by decide +kernel
theorem dX4_expectedDay_43 : decode cX4_expectedDay 43 = .ok (.invokestatic 222, 3) := by decide +kernel
theorem dX4_expectedDay_46 : decode cX4_expectedDay 46 = .ok (.ireturn, 1) := by decide +kernel
theorem dX4_expectedDay_47 : decode cX4_expectedDay 47 = .ok (.aload_n 0, 1) := by decide +kernel
theorem dX4_expectedDay_48 : decode cX4_expectedDay 48 = .ok (.iload_n 1, 1) := by decide +kernel
theorem dX4_expectedDay_49 : decode cX4_expectedDay 49 = .ok (.invokevirtual 95, 3) := by decide +kernel
theorem dX4_expectedDay_52 : decode cX4_expectedDay 52 = .ok (.iconst 2, 1) := by decide +kernel
theorem dX4_expectedDay_53 : decode cX4_expectedDay 53 = .ok (.if_icmp .ne 24, 3) := by decide +kernel
theorem dX4_expectedDay_56 : decode cX4_expectedDay 56 = .ok (.aload_n 0, 1) := by decide +kernel
theorem dX4_expectedDay_57 : decode cX4_expectedDay 57 = .ok (.getfield 10, 3) := by decide +kernel
theorem dX4_expectedDay_60 : decode cX4_expectedDay 60 = .ok (.getfield 47, 3) := by decide +kernel
theorem dX4_expectedDay_63 : decode cX4_expectedDay 63 = .ok (.iload_n 1, 1) := by decide +kernel
theorem dX4_expectedDay_64 : decode cX4_expectedDay 64 = .ok (.iconst 5, 1) := by decide +kernel
theorem dX4_expectedDay_65 : decode cX4_expectedDay 65 = .ok (.invokevirtual 88, 3) := by decide +kernel
theorem dX4_expectedDay_68 : decode cX4_expectedDay 68 = .ok (.bipush (-2), 2) := by decide +kernel
theorem dX4_expectedDay_70 : decode cX4_expectedDay 70 = .ok (.if_icmp .ne 7, 3) := by decide +kernel
theorem dX4_expectedDay_73 : decode cX4_expectedDay 73 = .ok (.iload_n 3, 1) := by decide +kernel
theorem dX4_expectedDay_74 : decode cX4_expectedDay 74 = .ok (.goto 5, 3) := by decide +kernel
theorem dX4_expectedDay_77 : decode cX4_expectedDay 77 = .ok (.bipush (-2), 2) := by decide +kernel
theorem dX4_expectedDay_79 : decode cX4_expectedDay 79 = .ok (.ireturn, 1) := by decide +kernel
theorem dX4_expectedBefore_0 : decode cX4_expectedBefore 0 = .ok (.iconst 0, 1) := by decide +kernel
theorem dX4_expectedBefore_1 : decode cX4_expectedBefore 1 = .ok (.istore 4, 2) := by decide +kernel
theorem dX4_expectedBefore_3 : decode cX4_expectedBefore 3 = .ok (.iconst 0, 1) := by decide +kernel
theorem dX4_expectedBefore_4 : decode cX4_expectedBefore 4 = .ok (.istore 5, 2) := by decide +kernel
theorem dX4_expectedBefore_6 : decode cX4_expectedBefore 6 = .ok (.iload 5, 2) := by decide +kernel
theorem dX4_expectedBefore_8 : decode cX4_expectedBefore 8 = .ok (.aload_n 0, 1) := by decide +kernel
theorem dX4_expectedBefore_9 : decode cX4_expectedBefore 9 = .ok (.getfield 10, 3) := by decide +kernel
theorem dX4_expectedBefore_12 : decode cX4_expectedBefore 12 = .ok (.getfield 47, 3) := by decide +kernel
theorem dX4_expectedBefore_15 : decode cX4_expectedBefore 15 = .ok (.invokevirtual 92, 3) := by decide +kernel
theorem dX4_expectedBefore_18 : decode cX4_expectedBefore 18 = .ok (.if_icmp .ge 40, 3) := by decide +kernel
theorem dX4_expectedBefore_21 : decode cX4_expectedBefore 21 = .ok (.aload_n 0, 1) := by decide +kernel
theorem dX4_expectedBefore_22 : decode cX4_expectedBefore 22 = .ok (.iload 5, 2) := by decide +kernel
theorem dX4_expectedBefore_24 : decode cX4_expectedBefore 24 = .ok (.iload_n 3, 1) := by decide +kernel
theorem dX4_expectedBefore_25 : decode cX4_expectedBefore 25 = .ok (.invokevirtual 216, 3) := by decide +kernel
theorem dX4_expectedBefore_28 : decode cX4_expectedBefore 28 = .ok (.istore 6, 2) := by decide +kernel
theorem dX4_expectedBefore_30 : decode cX4_expectedBefore 30 = .ok (.iload 6, 2) := by decide +kernel
theorem dX4_expectedBefore_32 : decode cX4_expectedBefore 32 = .ok (.bipush (-2), 2) := by decide +kernel
theorem dX4_expectedBefore_34 : decode cX4_expectedBefore 34 = .ok (.if_icmp .eq 18, 3) := by decide +kernel
theorem dX4_expectedBefore_37 : decode cX4_expectedBefore 37 = .ok (.iload 6, 2) := by decide +kernel
theorem dX4_expectedBefore_39 : decode cX4_expectedBefore 39 = .ok (.iload 5, 2) := by decide +kernel
theorem dX4_expectedBefore_41 : decode cX4_expectedBefore 41 = .ok (.iload_n 1, 1) := by decide +kernel
theorem dX4_expectedBefore_42 : decode cX4_expectedBefore 42 = .ok (.iload_n 2, 1) := by decide +kernel
theorem dX4_expectedBefore_43 : decode cX4_expectedBefore 43 = .ok (.invokestatic 227, 3) := by decide +kernel
theorem dX4_expectedBefore_46 : decode cX4_expectedBefore 46 = .ok (.ifCond .eq 6, 3) := by decide +kernel
theorem dX4_expectedBefore_49 : decode cX4_expectedBefore 49 = .ok (.iinc 4 1, 3) := by decide +kernel
theorem dX4_expectedBefore_52 : decode cX4_expectedBefore 52 = .ok (.iinc 5 1, 3) := by decide +kernel
theorem dX4_expectedBefore_55 : decode cX4_expectedBefore 55 = .ok (.goto (-49), 3) := by decide +kernel
theorem dX4_expectedBefore_58 : decode cX4_expectedBefore 58 = .ok (.iload 4, 2) := by decide +kernel
theorem dX4_expectedBefore_60 : decode cX4_expectedBefore 60 = .ok (.ireturn, 1) := by decide +kernel
theorem dX4_patronCount_0 : decode cX4_patronCount 0 = .ok (.aload_n 0, 1) := by decide +kernel
theorem dX4_patronCount_1 : decode cX4_patronCount 1 = .ok (.getfield 10, 3) := by decide +kernel
theorem dX4_patronCount_4 : decode cX4_patronCount 4 = .ok (.getfield 69, 3) := by decide +kernel
theorem dX4_patronCount_7 : decode cX4_patronCount 7 = .ok (.invokevirtual 92, 3) := by decide +kernel
theorem dX4_patronCount_10 : decode cX4_patronCount 10 = .ok (.ireturn, 1) := by decide +kernel
theorem dX4_owes_0 : decode cX4_owes 0 = .ok (.aload_n 0, 1) := by decide +kernel
theorem dX4_owes_1 : decode cX4_owes 1 = .ok (.iload_n 1, 1) := by decide +kernel
theorem dX4_owes_2 : decode cX4_owes 2 = .ok (.invokevirtual 143, 3) := by decide +kernel
theorem dX4_owes_5 : decode cX4_owes 5 = .ok (.ifCond .eq 18, 3) := by decide +kernel
theorem dX4_owes_8 : decode cX4_owes 8 = .ok (.aload_n 0, 1) := by decide +kernel
theorem dX4_owes_9 : decode cX4_owes 9 = .ok (.getfield 10, 3) := by decide +kernel
theorem dX4_owes_12 : decode cX4_owes 12 = .ok (.getfield 69, 3) := by decide +kernel
theorem dX4_owes_15 : decode cX4_owes 15 = .ok (.iload_n 1, 1) := by decide +kernel
theorem dX4_owes_16 : decode cX4_owes 16 = .ok (.iconst 0, 1) := by decide +kernel
theorem dX4_owes_17 : decode cX4_owes 17 = .ok (.invokevirtual 88, 3) := by decide +kernel
theorem dX4_owes_20 : decode cX4_owes 20 = .ok (.goto 4, 3) := by decide +kernel
theorem dX4_owes_23 : decode cX4_owes 23 = .ok (.iconst (-1), 1) := by decide +kernel
theorem dX4_owes_24 : decode cX4_owes 24 = .ok (.ireturn, 1) := by decide +kernel
theorem dX4_accrued_0 : decode cX4_accrued 0 = .ok (.aload_n 0, 1) := by decide +kernel
theorem dX4_accrued_1 : decode cX4_accrued 1 = .ok (.iload_n 1, 1) := by decide +kernel
theorem dX4_accrued_2 : decode cX4_accrued 2 = .ok (.invokevirtual 143, 3) := by decide +kernel
theorem dX4_accrued_5 : decode cX4_accrued 5 = .ok (.ifCond .ne 5, 3) := by decide +kernel
theorem dX4_accrued_8 : decode cX4_accrued 8 = .ok (.iconst (-1), 1) := by decide +kernel
theorem dX4_accrued_9 : decode cX4_accrued 9 = .ok (.ireturn, 1) := by decide +kernel
theorem dX4_accrued_10 : decode cX4_accrued 10 = .ok (.iconst 0, 1) := by decide +kernel
theorem dX4_accrued_11 : decode cX4_accrued 11 = .ok (.istore_n 2, 1) := by decide +kernel
theorem dX4_accrued_12 : decode cX4_accrued 12 = .ok (.iconst 0, 1) := by decide +kernel
theorem dX4_accrued_13 : decode cX4_accrued 13 = .ok (.istore_n 3, 1) := by decide +kernel
theorem dX4_accrued_14 : decode cX4_accrued 14 = .ok (.iload_n 3, 1) := by decide +kernel
theorem dX4_accrued_15 : decode cX4_accrued 15 = .ok (.aload_n 0, 1) := by decide +kernel
theorem dX4_accrued_16 : decode cX4_accrued 16 = .ok (.getfield 10, 3) := by decide +kernel
theorem dX4_accrued_19 : decode cX4_accrued 19 = .ok (.getfield 47, 3) := by decide +kernel
theorem dX4_accrued_22 : decode cX4_accrued 22 = .ok (.invokevirtual 92, 3) := by decide +kernel
theorem dX4_accrued_25 : decode cX4_accrued 25 = .ok (.if_icmp .ge 27, 3) := by decide +kernel
theorem dX4_accrued_28 : decode cX4_accrued 28 = .ok (.aload_n 0, 1) := by decide +kernel
theorem dX4_accrued_29 : decode cX4_accrued 29 = .ok (.iload_n 3, 1) := by decide +kernel
theorem dX4_accrued_30 : decode cX4_accrued 30 = .ok (.iconst 1, 1) := by decide +kernel
theorem dX4_accrued_31 : decode cX4_accrued 31 = .ok (.iload_n 1, 1) := by decide +kernel
theorem dX4_accrued_32 : decode cX4_accrued 32 = .ok (.invokevirtual 231, 3) := by decide +kernel
theorem dX4_accrued_35 : decode cX4_accrued 35 = .ok (.ifCond .eq 11, 3) := by decide +kernel
theorem dX4_accrued_38 : decode cX4_accrued 38 = .ok (.iload_n 2, 1) := by decide +kernel
theorem dX4_accrued_39 : decode cX4_accrued 39 = .ok (.aload_n 0, 1) := by decide +kernel
theorem dX4_accrued_40 : decode cX4_accrued 40 = .ok (.iload_n 3, 1) := by decide +kernel
theorem dX4_accrued_41 : decode cX4_accrued 41 = .ok (.invokevirtual 161, 3) := by decide +kernel
theorem dX4_accrued_44 : decode cX4_accrued 44 = .ok (.iadd, 1) := by decide +kernel
theorem dX4_accrued_45 : decode cX4_accrued 45 = .ok (.istore_n 2, 1) := by decide +kernel
theorem dX4_accrued_46 : decode cX4_accrued 46 = .ok (.iinc 3 1, 3) := by decide +kernel
theorem dX4_accrued_49 : decode cX4_accrued 49 = .ok (.goto (-35), 3) := by decide +kernel
theorem dX4_accrued_52 : decode cX4_accrued 52 = .ok (.iload_n 2, 1) := by decide +kernel
theorem dX4_accrued_53 : decode cX4_accrued 53 = .ok (.ireturn, 1) := by decide +kernel
theorem dX4_patron_0 : decode cX4_patron 0 = .ok (.aload_n 0, 1) := by decide +kernel
theorem dX4_patron_1 : decode cX4_patron 1 = .ok (.iload_n 1, 1) := by decide +kernel
theorem dX4_patron_2 : decode cX4_patron 2 = .ok (.invokevirtual 143, 3) := by decide +kernel
theorem dX4_patron_5 : decode cX4_patron 5 = .ok (.ifCond .ne 5, 3) := by decide +kernel
theorem dX4_patron_8 : decode cX4_patron 8 = .ok (.iconst (-1), 1) := by decide +kernel
theorem dX4_patron_9 : decode cX4_patron 9 = .ok (.ireturn, 1) := by decide +kernel
theorem dX4_patron_10 : decode cX4_patron 10 = .ok (.iload_n 2, 1) := by decide +kernel
theorem dX4_patron_11 : decode cX4_patron 11 = .ok (.tableswitch 94 0 5 #[37, 43, 49, 62, 68, 81], 37) := by decide +kernel
theorem dX4_patron_48 : decode cX4_patron 48 = .ok (.aload_n 0, 1) := by decide +kernel
theorem dX4_patron_49 : decode cX4_patron 49 = .ok (.iload_n 1, 1) := by decide +kernel
theorem dX4_patron_50 : decode cX4_patron 50 = .ok (.invokevirtual 149, 3) := by decide +kernel
theorem dX4_patron_53 : decode cX4_patron 53 = .ok (.ireturn, 1) := by decide +kernel
theorem dX4_patron_54 : decode cX4_patron 54 = .ok (.aload_n 0, 1) := by decide +kernel
theorem dX4_patron_55 : decode cX4_patron 55 = .ok (.iload_n 1, 1) := by decide +kernel
theorem dX4_patron_56 : decode cX4_patron 56 = .ok (.invokevirtual 204, 3) := by decide +kernel
theorem dX4_patron_59 : decode cX4_patron 59 = .ok (.ireturn, 1) := by decide +kernel
theorem dX4_patron_60 : decode cX4_patron 60 = .ok (.aload_n 0, 1) := by decide +kernel
theorem dX4_patron_61 : decode cX4_patron 61 = .ok (.getfield 10, 3) := by decide +kernel
theorem dX4_patron_64 : decode cX4_patron 64 = .ok (.getfield 69, 3) := by decide +kernel
theorem dX4_patron_67 : decode cX4_patron 67 = .ok (.iload_n 1, 1) := by decide +kernel
theorem dX4_patron_68 : decode cX4_patron 68 = .ok (.iconst 1, 1) := by decide +kernel
theorem dX4_patron_69 : decode cX4_patron 69 = .ok (.invokevirtual 88, 3) := by decide +kernel
theorem dX4_patron_72 : decode cX4_patron 72 = .ok (.ireturn, 1) := by decide +kernel
theorem dX4_patron_73 : decode cX4_patron 73 = .ok (.aload_n 0, 1) := by decide +kernel
theorem dX4_patron_74 : decode cX4_patron 74 = .ok (.iload_n 1, 1) := by decide +kernel
theorem dX4_patron_75 : decode cX4_patron 75 = .ok (.invokevirtual 235, 3) := by decide +kernel
theorem dX4_patron_78 : decode cX4_patron 78 = .ok (.ireturn, 1) := by decide +kernel
theorem dX4_patron_79 : decode cX4_patron 79 = .ok (.aload_n 0, 1) := by decide +kernel
theorem dX4_patron_80 : decode cX4_patron 80 = .ok (.getfield 10, 3) := by decide +kernel
theorem dX4_patron_83 : decode cX4_patron 83 = .ok (.getfield 69, 3) := by decide +kernel
theorem dX4_patron_86 : decode cX4_patron 86 = .ok (.iload_n 1, 1) := by decide +kernel
theorem dX4_patron_87 : decode cX4_patron 87 = .ok (.iconst 2, 1) := by decide +kernel
theorem dX4_patron_88 : decode cX4_patron 88 = .ok (.invokevirtual 88, 3) := by decide +kernel
theorem dX4_patron_91 : decode cX4_patron 91 = .ok (.ireturn, 1) := by decide +kernel
theorem dX4_patron_92 : decode cX4_patron 92 = .ok (.aload_n 0, 1) := by decide +kernel
theorem dX4_patron_93 : decode cX4_patron 93 = .ok (.getfield 10, 3) := by decide +kernel
theorem dX4_patron_96 : decode cX4_patron 96 = .ok (.getfield 69, 3) := by decide +kernel
theorem dX4_patron_99 : decode cX4_patron 99 = .ok (.iload_n 1, 1) := by decide +kernel
theorem dX4_patron_100 : decode cX4_patron 100 = .ok (.iconst 3, 1) := by decide +kernel
theorem dX4_patron_101 : decode cX4_patron 101 = .ok (.invokevirtual 88, 3) := by decide +kernel
theorem dX4_patron_104 : decode cX4_patron 104 = .ok (.ireturn, 1) := by decide +kernel
theorem dX4_patron_105 : decode cX4_patron 105 = .ok (.iconst (-1), 1) := by decide +kernel
theorem dX4_patron_106 : decode cX4_patron 106 = .ok (.ireturn, 1) := by decide +kernel
theorem dX4_loanOf_0 : decode cX4_loanOf 0 = .ok (.aload_n 0, 1) := by decide +kernel
theorem dX4_loanOf_1 : decode cX4_loanOf 1 = .ok (.iload_n 1, 1) := by decide +kernel
theorem dX4_loanOf_2 : decode cX4_loanOf 2 = .ok (.invokevirtual 143, 3) := by decide +kernel
theorem dX4_loanOf_5 : decode cX4_loanOf 5 = .ok (.ifCond .eq 13, 3) := by decide +kernel
theorem dX4_loanOf_8 : decode cX4_loanOf 8 = .ok (.aload_n 0, 1) := by decide +kernel
theorem dX4_loanOf_9 : decode cX4_loanOf 9 = .ok (.iconst 1, 1) := by decide +kernel
theorem dX4_loanOf_10 : decode cX4_loanOf 10 = .ok (.iload_n 1, 1) := by decide +kernel
theorem dX4_loanOf_11 : decode cX4_loanOf 11 = .ok (.iload_n 2, 1) := by decide +kernel
theorem dX4_loanOf_12 : decode cX4_loanOf 12 = .ok (.invokevirtual 238, 3) := by decide +kernel
theorem dX4_loanOf_15 : decode cX4_loanOf 15 = .ok (.goto 4, 3) := by decide +kernel
theorem dX4_loanOf_18 : decode cX4_loanOf 18 = .ok (.iconst (-1), 1) := by decide +kernel
theorem dX4_loanOf_19 : decode cX4_loanOf 19 = .ok (.ireturn, 1) := by decide +kernel
theorem dX4_fine_0 : decode cX4_fine 0 = .ok (.aload_n 0, 1) := by decide +kernel
theorem dX4_fine_1 : decode cX4_fine 1 = .ok (.iload_n 1, 1) := by decide +kernel
theorem dX4_fine_2 : decode cX4_fine 2 = .ok (.invokevirtual 85, 3) := by decide +kernel
theorem dX4_fine_5 : decode cX4_fine 5 = .ok (.ifCond .ne 5, 3) := by decide +kernel
theorem dX4_fine_8 : decode cX4_fine 8 = .ok (.iconst (-1), 1) := by decide +kernel
theorem dX4_fine_9 : decode cX4_fine 9 = .ok (.ireturn, 1) := by decide +kernel
theorem dX4_fine_10 : decode cX4_fine 10 = .ok (.aload_n 0, 1) := by decide +kernel
theorem dX4_fine_11 : decode cX4_fine 11 = .ok (.iload_n 1, 1) := by decide +kernel
theorem dX4_fine_12 : decode cX4_fine 12 = .ok (.invokevirtual 158, 3) := by decide +kernel
theorem dX4_fine_15 : decode cX4_fine 15 = .ok (.ifCond .eq 11, 3) := by decide +kernel
theorem dX4_fine_18 : decode cX4_fine 18 = .ok (.aload_n 0, 1) := by decide +kernel
theorem dX4_fine_19 : decode cX4_fine 19 = .ok (.iload_n 1, 1) := by decide +kernel
theorem dX4_fine_20 : decode cX4_fine 20 = .ok (.invokevirtual 161, 3) := by decide +kernel
theorem dX4_fine_23 : decode cX4_fine 23 = .ok (.goto 5, 3) := by decide +kernel
theorem dX4_fine_26 : decode cX4_fine 26 = .ok (.bipush (-2), 2) := by decide +kernel
theorem dX4_fine_28 : decode cX4_fine 28 = .ok (.ireturn, 1) := by decide +kernel
theorem dX4_pay_0 : decode cX4_pay 0 = .ok (.aload_n 0, 1) := by decide +kernel
theorem dX4_pay_1 : decode cX4_pay 1 = .ok (.aload_n 0, 1) := by decide +kernel
theorem dX4_pay_2 : decode cX4_pay 2 = .ok (.iconst 3, 1) := by decide +kernel
theorem dX4_pay_3 : decode cX4_pay 3 = .ok (.iload_n 1, 1) := by decide +kernel
theorem dX4_pay_4 : decode cX4_pay 4 = .ok (.iload_n 2, 1) := by decide +kernel
theorem dX4_pay_5 : decode cX4_pay 5 = .ok (.invokevirtual 241, 3) := by decide +kernel
theorem dX4_pay_8 : decode cX4_pay 8 = .ok (.invokevirtual 65, 3) := by decide +kernel
theorem dX4_pay_11 : decode cX4_pay 11 = .ok (.ireturn, 1) := by decide +kernel
theorem dX4_waive_0 : decode cX4_waive 0 = .ok (.aload_n 0, 1) := by decide +kernel
theorem dX4_waive_1 : decode cX4_waive 1 = .ok (.aload_n 0, 1) := by decide +kernel
theorem dX4_waive_2 : decode cX4_waive 2 = .ok (.iconst 4, 1) := by decide +kernel
theorem dX4_waive_3 : decode cX4_waive 3 = .ok (.iload_n 1, 1) := by decide +kernel
theorem dX4_waive_4 : decode cX4_waive 4 = .ok (.iload_n 2, 1) := by decide +kernel
theorem dX4_waive_5 : decode cX4_waive 5 = .ok (.invokevirtual 241, 3) := by decide +kernel
theorem dX4_waive_8 : decode cX4_waive 8 = .ok (.invokevirtual 65, 3) := by decide +kernel
theorem dX4_waive_11 : decode cX4_waive 11 = .ok (.ireturn, 1) := by decide +kernel
theorem dX4_credit_0 : decode cX4_credit 0 = .ok (.aload_n 0, 1) := by decide +kernel
theorem dX4_credit_1 : decode cX4_credit 1 = .ok (.iload_n 2, 1) := by decide +kernel
theorem dX4_credit_2 : decode cX4_credit 2 = .ok (.invokevirtual 143, 3) := by decide +kernel
theorem dX4_credit_5 : decode cX4_credit 5 = .ok (.ifCond .eq 24, 3) := by decide +kernel
theorem dX4_credit_8 : decode cX4_credit 8 = .ok (.iload_n 3, 1) := by decide +kernel
theorem dX4_credit_9 : decode cX4_credit 9 = .ok (.iconst 1, 1) := by decide +kernel
theorem dX4_credit_10 : decode cX4_credit 10 = .ok (.if_icmp .lt 19, 3) := by decide +kernel
theorem dX4_credit_13 : decode cX4_credit 13 = .ok (.iload_n 3, 1) := by decide +kernel
theorem dX4_credit_14 : decode cX4_credit 14 = .ok (.aload_n 0, 1) := by decide +kernel
theorem dX4_credit_15 : decode cX4_credit 15 = .ok (.getfield 10, 3) := by decide +kernel
theorem dX4_credit_18 : decode cX4_credit 18 = .ok (.getfield 69, 3) := by decide +kernel
theorem dX4_credit_21 : decode cX4_credit 21 = .ok (.iload_n 2, 1) := by decide +kernel
theorem dX4_credit_22 : decode cX4_credit 22 = .ok (.iconst 0, 1) := by decide +kernel
theorem dX4_credit_23 : decode cX4_credit 23 = .ok (.invokevirtual 88, 3) := by decide +kernel
theorem dX4_credit_26 : decode cX4_credit 26 = .ok (.if_icmp .le 5, 3) := by decide +kernel
theorem dX4_credit_29 : decode cX4_credit 29 = .ok (.iconst (-1), 1) := by decide +kernel
theorem dX4_credit_30 : decode cX4_credit 30 = .ok (.ireturn, 1) := by decide +kernel
theorem dX4_credit_31 : decode cX4_credit 31 = .ok (.aload_n 0, 1) := by decide +kernel
theorem dX4_credit_32 : decode cX4_credit 32 = .ok (.iload_n 1, 1) := by decide +kernel
theorem dX4_credit_33 : decode cX4_credit 33 = .ok (.iload_n 2, 1) := by decide +kernel
theorem dX4_credit_34 : decode cX4_credit 34 = .ok (.iload_n 3, 1) := by decide +kernel
theorem dX4_credit_35 : decode cX4_credit 35 = .ok (.ineg, 1) := by decide +kernel
theorem dX4_credit_36 : decode cX4_credit 36 = .ok (.iconst (-1), 1) := by decide +kernel
theorem dX4_credit_37 : decode cX4_credit 37 = .ok (.invokevirtual 164, 3) := by decide +kernel
theorem dX4_credit_40 : decode cX4_credit 40 = .ok (.aload_n 0, 1) := by decide +kernel
theorem dX4_credit_41 : decode cX4_credit 41 = .ok (.getfield 10, 3) := by decide +kernel
theorem dX4_credit_44 : decode cX4_credit 44 = .ok (.getfield 69, 3) := by decide +kernel
theorem dX4_credit_47 : decode cX4_credit 47 = .ok (.iload_n 2, 1) := by decide +kernel
theorem dX4_credit_48 : decode cX4_credit 48 = .ok (.iconst 0, 1) := by decide +kernel
theorem dX4_credit_49 : decode cX4_credit 49 = .ok (.invokevirtual 88, 3) := by decide +kernel
theorem dX4_credit_52 : decode cX4_credit 52 = .ok (.ireturn, 1) := by decide +kernel
theorem dX4_ledgerSize_0 : decode cX4_ledgerSize 0 = .ok (.aload_n 0, 1) := by decide +kernel
theorem dX4_ledgerSize_1 : decode cX4_ledgerSize 1 = .ok (.getfield 10, 3) := by decide +kernel
theorem dX4_ledgerSize_4 : decode cX4_ledgerSize 4 = .ok (.getfield 244, 3) := by decide +kernel
theorem dX4_ledgerSize_7 : decode cX4_ledgerSize 7 = .ok (.invokevirtual 92, 3) := by decide +kernel
theorem dX4_ledgerSize_10 : decode cX4_ledgerSize 10 = .ok (.ireturn, 1) := by decide +kernel
theorem dX4_ledger_0 : decode cX4_ledger 0 = .ok (.aload_n 0, 1) := by decide +kernel
theorem dX4_ledger_1 : decode cX4_ledger 1 = .ok (.getfield 10, 3) := by decide +kernel
theorem dX4_ledger_4 : decode cX4_ledger 4 = .ok (.getfield 244, 3) := by decide +kernel
theorem dX4_ledger_7 : decode cX4_ledger 7 = .ok (.iload_n 1, 1) := by decide +kernel
theorem dX4_ledger_8 : decode cX4_ledger 8 = .ok (.invokevirtual 75, 3) := by decide +kernel
theorem dX4_ledger_11 : decode cX4_ledger 11 = .ok (.ifCond .eq 12, 3) := by decide +kernel
theorem dX4_ledger_14 : decode cX4_ledger 14 = .ok (.iload_n 2, 1) := by decide +kernel
theorem dX4_ledger_15 : decode cX4_ledger 15 = .ok (.ifCond .lt 8, 3) := by decide +kernel
theorem dX4_ledger_18 : decode cX4_ledger 18 = .ok (.iload_n 2, 1) := by decide +kernel
theorem dX4_ledger_19 : decode cX4_ledger 19 = .ok (.iconst 5, 1) := by decide +kernel
theorem dX4_ledger_20 : decode cX4_ledger 20 = .ok (.if_icmp .lt 6, 3) := by decide +kernel
theorem dX4_ledger_23 : decode cX4_ledger 23 = .ok (.ldc 249, 2) := by decide +kernel
theorem dX4_ledger_25 : decode cX4_ledger 25 = .ok (.ireturn, 1) := by decide +kernel
theorem dX4_ledger_26 : decode cX4_ledger 26 = .ok (.aload_n 0, 1) := by decide +kernel
theorem dX4_ledger_27 : decode cX4_ledger 27 = .ok (.getfield 10, 3) := by decide +kernel
theorem dX4_ledger_30 : decode cX4_ledger 30 = .ok (.getfield 244, 3) := by decide +kernel
theorem dX4_ledger_33 : decode cX4_ledger 33 = .ok (.iload_n 1, 1) := by decide +kernel
theorem dX4_ledger_34 : decode cX4_ledger 34 = .ok (.iload_n 2, 1) := by decide +kernel
theorem dX4_ledger_35 : decode cX4_ledger 35 = .ok (.invokevirtual 88, 3) := by decide +kernel
theorem dX4_ledger_38 : decode cX4_ledger 38 = .ok (.ireturn, 1) := by decide +kernel
theorem dX4_ledgerSum_0 : decode cX4_ledgerSum 0 = .ok (.aload_n 0, 1) := by decide +kernel
theorem dX4_ledgerSum_1 : decode cX4_ledgerSum 1 = .ok (.iload_n 1, 1) := by decide +kernel
theorem dX4_ledgerSum_2 : decode cX4_ledgerSum 2 = .ok (.invokevirtual 143, 3) := by decide +kernel
theorem dX4_ledgerSum_5 : decode cX4_ledgerSum 5 = .ok (.ifCond .eq 13, 3) := by decide +kernel
theorem dX4_ledgerSum_8 : decode cX4_ledgerSum 8 = .ok (.iload_n 2, 1) := by decide +kernel
theorem dX4_ledgerSum_9 : decode cX4_ledgerSum 9 = .ok (.iconst (-1), 1) := by decide +kernel
theorem dX4_ledgerSum_10 : decode cX4_ledgerSum 10 = .ok (.if_icmp .lt 8, 3) := by decide +kernel
theorem dX4_ledgerSum_13 : decode cX4_ledgerSum 13 = .ok (.iload_n 2, 1) := by decide +kernel
theorem dX4_ledgerSum_14 : decode cX4_ledgerSum 14 = .ok (.iconst 5, 1) := by decide +kernel
theorem dX4_ledgerSum_15 : decode cX4_ledgerSum 15 = .ok (.if_icmp .lt 6, 3) := by decide +kernel
theorem dX4_ledgerSum_18 : decode cX4_ledgerSum 18 = .ok (.ldc 249, 2) := by decide +kernel
theorem dX4_ledgerSum_20 : decode cX4_ledgerSum 20 = .ok (.ireturn, 1) := by decide +kernel
theorem dX4_ledgerSum_21 : decode cX4_ledgerSum 21 = .ok (.iconst 0, 1) := by decide +kernel
theorem dX4_ledgerSum_22 : decode cX4_ledgerSum 22 = .ok (.istore_n 3, 1) := by decide +kernel
theorem dX4_ledgerSum_23 : decode cX4_ledgerSum 23 = .ok (.iconst 0, 1) := by decide +kernel
theorem dX4_ledgerSum_24 : decode cX4_ledgerSum 24 = .ok (.istore 4, 2) := by decide +kernel
theorem dX4_ledgerSum_26 : decode cX4_ledgerSum 26 = .ok (.iload 4, 2) := by decide +kernel
theorem dX4_ledgerSum_28 : decode cX4_ledgerSum 28 = .ok (.aload_n 0, 1) := by decide +kernel
theorem dX4_ledgerSum_29 : decode cX4_ledgerSum 29 = .ok (.getfield 10, 3) := by decide +kernel
theorem dX4_ledgerSum_32 : decode cX4_ledgerSum 32 = .ok (.getfield 244, 3) := by decide +kernel
theorem dX4_ledgerSum_35 : decode cX4_ledgerSum 35 = .ok (.invokevirtual 92, 3) := by decide +kernel
theorem dX4_ledgerSum_38 : decode cX4_ledgerSum 38 = .ok (.if_icmp .ge 76, 3) := by decide +kernel
theorem dX4_ledgerSum_41 : decode cX4_ledgerSum 41 = .ok (.iload_n 2, 1) := by decide +kernel
theorem dX4_ledgerSum_42 : decode cX4_ledgerSum 42 = .ok (.iconst (-1), 1) := by decide +kernel
theorem dX4_ledgerSum_43 : decode cX4_ledgerSum 43 = .ok (.if_icmp .eq 20, 3) := by decide +kernel
theorem dX4_ledgerSum_46 : decode cX4_ledgerSum 46 = .ok (.aload_n 0, 1) := by decide +kernel
theorem dX4_ledgerSum_47 : decode cX4_ledgerSum 47 = .ok (.getfield 10, 3) := by decide +kernel
theorem dX4_ledgerSum_50 : decode cX4_ledgerSum 50 = .ok (.getfield 244, 3) := by decide +kernel
theorem dX4_ledgerSum_53 : decode cX4_ledgerSum 53 = .ok (.iload 4, 2) := by decide +kernel
theorem dX4_ledgerSum_55 : decode cX4_ledgerSum 55 = .ok (.iconst 0, 1) := by decide +kernel
theorem dX4_ledgerSum_56 : decode cX4_ledgerSum 56 = .ok (.invokevirtual 88, 3) := by decide +kernel
theorem dX4_ledgerSum_59 : decode cX4_ledgerSum 59 = .ok (.iload_n 2, 1) := by decide +kernel
theorem dX4_ledgerSum_60 : decode cX4_ledgerSum 60 = .ok (.if_icmp .ne 7, 3) := by decide +kernel
theorem dX4_ledgerSum_63 : decode cX4_ledgerSum 63 = .ok (.iconst 1, 1) := by decide +kernel
theorem dX4_ledgerSum_64 : decode cX4_ledgerSum 64 = .ok (.goto 4, 3) := by decide +kernel
theorem dX4_ledgerSum_67 : decode cX4_ledgerSum 67 = .ok (.iconst 0, 1) := by decide +kernel
theorem dX4_ledgerSum_68 : decode cX4_ledgerSum 68 = .ok (.istore 5, 2) := by decide +kernel
theorem dX4_ledgerSum_70 : decode cX4_ledgerSum 70 = .ok (.iload 5, 2) := by decide +kernel
theorem dX4_ledgerSum_72 : decode cX4_ledgerSum 72 = .ok (.ifCond .eq 36, 3) := by decide +kernel
theorem dX4_ledgerSum_75 : decode cX4_ledgerSum 75 = .ok (.aload_n 0, 1) := by decide +kernel
theorem dX4_ledgerSum_76 : decode cX4_ledgerSum 76 = .ok (.getfield 10, 3) := by decide +kernel
theorem dX4_ledgerSum_79 : decode cX4_ledgerSum 79 = .ok (.getfield 244, 3) := by decide +kernel
theorem dX4_ledgerSum_82 : decode cX4_ledgerSum 82 = .ok (.iload 4, 2) := by decide +kernel
theorem dX4_ledgerSum_84 : decode cX4_ledgerSum 84 = .ok (.iconst 1, 1) := by decide +kernel
theorem dX4_ledgerSum_85 : decode cX4_ledgerSum 85 = .ok (.invokevirtual 88, 3) := by decide +kernel
theorem dX4_ledgerSum_88 : decode cX4_ledgerSum 88 = .ok (.iload_n 1, 1) := by decide +kernel
theorem dX4_ledgerSum_89 : decode cX4_ledgerSum 89 = .ok (.if_icmp .ne 19, 3) := by decide +kernel
theorem dX4_ledgerSum_92 : decode cX4_ledgerSum 92 = .ok (.iload_n 3, 1) := by decide +kernel
theorem dX4_ledgerSum_93 : decode cX4_ledgerSum 93 = .ok (.aload_n 0, 1) := by decide +kernel
theorem dX4_ledgerSum_94 : decode cX4_ledgerSum 94 = .ok (.getfield 10, 3) := by decide +kernel
theorem dX4_ledgerSum_97 : decode cX4_ledgerSum 97 = .ok (.getfield 244, 3) := by decide +kernel
theorem dX4_ledgerSum_100 : decode cX4_ledgerSum 100 = .ok (.iload 4, 2) := by decide +kernel
theorem dX4_ledgerSum_102 : decode cX4_ledgerSum 102 = .ok (.iconst 2, 1) := by decide +kernel
theorem dX4_ledgerSum_103 : decode cX4_ledgerSum 103 = .ok (.invokevirtual 88, 3) := by decide +kernel
theorem dX4_ledgerSum_106 : decode cX4_ledgerSum 106 = .ok (.iadd, 1) := by decide +kernel
theorem dX4_ledgerSum_107 : decode cX4_ledgerSum 107 = .ok (.istore_n 3, 1) := by decide +kernel
theorem dX4_ledgerSum_108 : decode cX4_ledgerSum 108 = .ok (.iinc 4 1, 3) := by decide +kernel
theorem dX4_ledgerSum_111 : decode cX4_ledgerSum 111 = .ok (.goto (-85), 3) := by decide +kernel
theorem dX4_ledgerSum_114 : decode cX4_ledgerSum 114 = .ok (.iload_n 3, 1) := by decide +kernel
theorem dX4_ledgerSum_115 : decode cX4_ledgerSum 115 = .ok (.ireturn, 1) := by decide +kernel
theorem dX4_shelf_0 : decode cX4_shelf 0 = .ok (.iload_n 1, 1) := by decide +kernel
theorem dX4_shelf_1 : decode cX4_shelf 1 = .ok (.invokestatic 44, 3) := by decide +kernel
theorem dX4_shelf_4 : decode cX4_shelf 4 = .ok (.ifCond .ne 5, 3) := by decide +kernel
theorem dX4_shelf_7 : decode cX4_shelf 7 = .ok (.iconst (-1), 1) := by decide +kernel
theorem dX4_shelf_8 : decode cX4_shelf 8 = .ok (.ireturn, 1) := by decide +kernel
theorem dX4_shelf_9 : decode cX4_shelf 9 = .ok (.iconst 0, 1) := by decide +kernel
theorem dX4_shelf_10 : decode cX4_shelf 10 = .ok (.istore_n 3, 1) := by decide +kernel
theorem dX4_shelf_11 : decode cX4_shelf 11 = .ok (.iconst 0, 1) := by decide +kernel
theorem dX4_shelf_12 : decode cX4_shelf 12 = .ok (.istore 4, 2) := by decide +kernel
theorem dX4_shelf_14 : decode cX4_shelf 14 = .ok (.iload 4, 2) := by decide +kernel
theorem dX4_shelf_16 : decode cX4_shelf 16 = .ok (.aload_n 0, 1) := by decide +kernel
theorem dX4_shelf_17 : decode cX4_shelf 17 = .ok (.getfield 10, 3) := by decide +kernel
theorem dX4_shelf_20 : decode cX4_shelf 20 = .ok (.getfield 47, 3) := by decide +kernel
theorem dX4_shelf_23 : decode cX4_shelf 23 = .ok (.invokevirtual 92, 3) := by decide +kernel
theorem dX4_shelf_26 : decode cX4_shelf 26 = .ok (.if_icmp .ge 45, 3) := by decide +kernel
theorem dX4_shelf_29 : decode cX4_shelf 29 = .ok (.aload_n 0, 1) := by decide +kernel
theorem dX4_shelf_30 : decode cX4_shelf 30 = .ok (.iload 4, 2) := by decide +kernel
theorem dX4_shelf_32 : decode cX4_shelf 32 = .ok (.iconst 0, 1) := by decide +kernel
theorem dX4_shelf_33 : decode cX4_shelf 33 = .ok (.iload_n 1, 1) := by decide +kernel
theorem dX4_shelf_34 : decode cX4_shelf 34 = .ok (.invokevirtual 231, 3) := by decide +kernel
theorem dX4_shelf_37 : decode cX4_shelf 37 = .ok (.ifCond .ne 17, 3) := by decide +kernel
theorem dX4_shelf_40 : decode cX4_shelf 40 = .ok (.aload_n 0, 1) := by decide +kernel
theorem dX4_shelf_41 : decode cX4_shelf 41 = .ok (.iload 4, 2) := by decide +kernel
theorem dX4_shelf_43 : decode cX4_shelf 43 = .ok (.iconst 3, 1) := by decide +kernel
theorem dX4_shelf_44 : decode cX4_shelf 44 = .ok (.iload_n 1, 1) := by decide +kernel
theorem dX4_shelf_45 : decode cX4_shelf 45 = .ok (.invokevirtual 231, 3) := by decide +kernel
theorem dX4_shelf_48 : decode cX4_shelf 48 = .ok (.ifCond .ne 6, 3) := by decide +kernel
theorem dX4_shelf_51 : decode cX4_shelf 51 = .ok (.goto 14, 3) := by decide +kernel
theorem dX4_shelf_54 : decode cX4_shelf 54 = .ok (.iload_n 3, 1) := by decide +kernel
theorem dX4_shelf_55 : decode cX4_shelf 55 = .ok (.iload_n 2, 1) := by decide +kernel
theorem dX4_shelf_56 : decode cX4_shelf 56 = .ok (.if_icmp .ne 6, 3) := by decide +kernel
theorem dX4_shelf_59 : decode cX4_shelf 59 = .ok (.iload 4, 2) := by decide +kernel
theorem dX4_shelf_61 : decode cX4_shelf 61 = .ok (.ireturn, 1) := by decide +kernel
theorem dX4_shelf_62 : decode cX4_shelf 62 = .ok (.iinc 3 1, 3) := by decide +kernel
theorem dX4_shelf_65 : decode cX4_shelf 65 = .ok (.iinc 4 1, 3) := by decide +kernel
theorem dX4_shelf_68 : decode cX4_shelf 68 = .ok (.goto (-54), 3) := by decide +kernel
theorem dX4_shelf_71 : decode cX4_shelf 71 = .ok (.iload_n 2, 1) := by decide +kernel
theorem dX4_shelf_72 : decode cX4_shelf 72 = .ok (.iconst (-1), 1) := by decide +kernel
theorem dX4_shelf_73 : decode cX4_shelf 73 = .ok (.if_icmp .ne 7, 3) := by decide +kernel
theorem dX4_shelf_76 : decode cX4_shelf 76 = .ok (.iload_n 3, 1) := by decide +kernel
theorem dX4_shelf_77 : decode cX4_shelf 77 = .ok (.goto 5, 3) := by decide +kernel
theorem dX4_shelf_80 : decode cX4_shelf 80 = .ok (.bipush (-2), 2) := by decide +kernel
theorem dX4_shelf_82 : decode cX4_shelf 82 = .ok (.ireturn, 1) := by decide +kernel
theorem dX4_arriving_0 : decode cX4_arriving 0 = .ok (.iload_n 1, 1) := by decide +kernel
theorem dX4_arriving_1 : decode cX4_arriving 1 = .ok (.invokestatic 44, 3) := by decide +kernel
theorem dX4_arriving_4 : decode cX4_arriving 4 = .ok (.ifCond .eq 13, 3) := by decide +kernel
theorem dX4_arriving_7 : decode cX4_arriving 7 = .ok (.aload_n 0, 1) := by decide +kernel
theorem dX4_arriving_8 : decode cX4_arriving 8 = .ok (.iconst 2, 1) := by decide +kernel
theorem dX4_arriving_9 : decode cX4_arriving 9 = .ok (.iload_n 1, 1) := by decide +kernel
theorem dX4_arriving_10 : decode cX4_arriving 10 = .ok (.iload_n 2, 1) := by decide +kernel
theorem dX4_arriving_11 : decode cX4_arriving 11 = .ok (.invokevirtual 238, 3) := by decide +kernel
theorem dX4_arriving_14 : decode cX4_arriving 14 = .ok (.goto 4, 3) := by decide +kernel
theorem dX4_arriving_17 : decode cX4_arriving 17 = .ok (.iconst (-1), 1) := by decide +kernel
theorem dX4_arriving_18 : decode cX4_arriving 18 = .ok (.ireturn, 1) := by decide +kernel
theorem dX4_feed_0 : decode cX4_feed 0 = .ok (.iload_n 1, 1) := by decide +kernel
theorem dX4_feed_1 : decode cX4_feed 1 = .ok (.bipush 32, 2) := by decide +kernel
theorem dX4_feed_3 : decode cX4_feed 3 = .ok (.if_icmp .lt 9, 3) := by decide +kernel
theorem dX4_feed_6 : decode cX4_feed 6 = .ok (.iload_n 1, 1) := by decide +kernel
theorem dX4_feed_7 : decode cX4_feed 7 = .ok (.bipush 126, 2) := by decide +kernel
theorem dX4_feed_9 : decode cX4_feed 9 = .ok (.if_icmp .le 5, 3) := by decide +kernel
theorem dX4_feed_12 : decode cX4_feed 12 = .ok (.iconst (-1), 1) := by decide +kernel
theorem dX4_feed_13 : decode cX4_feed 13 = .ok (.ireturn, 1) := by decide +kernel
theorem dX4_feed_14 : decode cX4_feed 14 = .ok (.aload_n 0, 1) := by decide +kernel
theorem dX4_feed_15 : decode cX4_feed 15 = .ok (.getfield 36, 3) := by decide +kernel
theorem dX4_feed_18 : decode cX4_feed 18 = .ok (.iload_n 1, 1) := by decide +kernel
theorem dX4_feed_19 : decode cX4_feed 19 = .ok (.invokevirtual 250, 3) := by decide +kernel
theorem dX4_feed_22 : decode cX4_feed 22 = .ok (.ireturn, 1) := by decide +kernel
theorem dX4_execute_0 : decode cX4_execute 0 = .ok (.aload_n 0, 1) := by decide +kernel
theorem dX4_execute_1 : decode cX4_execute 1 = .ok (.getfield 36, 3) := by decide +kernel
theorem dX4_execute_4 : decode cX4_execute 4 = .ok (.invokevirtual 253, 3) := by decide +kernel
theorem dX4_execute_7 : decode cX4_execute 7 = .ok (.istore_n 1, 1) := by decide +kernel
theorem dX4_execute_8 : decode cX4_execute 8 = .ok (.aload_n 0, 1) := by decide +kernel
theorem dX4_execute_9 : decode cX4_execute 9 = .ok (.getfield 36, 3) := by decide +kernel
theorem dX4_execute_12 : decode cX4_execute 12 = .ok (.invokevirtual 257, 3) := by decide +kernel
theorem dX4_execute_15 : decode cX4_execute 15 = .ok (.iload_n 1, 1) := by decide +kernel
theorem dX4_execute_16 : decode cX4_execute 16 = .ok (.ifCond .ne 15, 3) := by decide +kernel
theorem dX4_execute_19 : decode cX4_execute 19 = .ok (.sipush (-200), 3) := by decide +kernel
theorem dX4_execute_22 : decode cX4_execute 22 = .ok (.aload_n 0, 1) := by decide +kernel
theorem dX4_execute_23 : decode cX4_execute 23 = .ok (.getfield 36, 3) := by decide +kernel
theorem dX4_execute_26 : decode cX4_execute 26 = .ok (.invokevirtual 260, 3) := by decide +kernel
theorem dX4_execute_29 : decode cX4_execute 29 = .ok (.isub, 1) := by decide +kernel
theorem dX4_execute_30 : decode cX4_execute 30 = .ok (.ireturn, 1) := by decide +kernel
theorem dX4_execute_31 : decode cX4_execute 31 = .ok (.aload_n 0, 1) := by decide +kernel
theorem dX4_execute_32 : decode cX4_execute 32 = .ok (.getfield 36, 3) := by decide +kernel
theorem dX4_execute_35 : decode cX4_execute 35 = .ok (.invokevirtual 263, 3) := by decide +kernel
theorem dX4_execute_38 : decode cX4_execute 38 = .ok (.istore_n 2, 1) := by decide +kernel
theorem dX4_execute_39 : decode cX4_execute 39 = .ok (.iconst 0, 1) := by decide +kernel
theorem dX4_execute_40 : decode cX4_execute 40 = .ok (.istore_n 3, 1) := by decide +kernel
theorem dX4_execute_41 : decode cX4_execute 41 = .ok (.iload_n 3, 1) := by decide +kernel
theorem dX4_execute_42 : decode cX4_execute 42 = .ok (.iload_n 2, 1) := by decide +kernel
theorem dX4_execute_43 : decode cX4_execute 43 = .ok (.if_icmp .ge 34, 3) := by decide +kernel
theorem dX4_execute_46 : decode cX4_execute 46 = .ok (.aload_n 0, 1) := by decide +kernel
theorem dX4_execute_47 : decode cX4_execute 47 = .ok (.iload_n 3, 1) := by decide +kernel
theorem dX4_execute_48 : decode cX4_execute 48 = .ok (.invokevirtual 266, 3) := by decide +kernel
theorem dX4_execute_51 : decode cX4_execute 51 = .ok (.ifCond .ge 20, 3) := by decide +kernel
theorem dX4_execute_54 : decode cX4_execute 54 = .ok (.aload_n 0, 1) := by decide +kernel
theorem dX4_execute_55 : decode cX4_execute 55 = .ok (.getfield 10, 3) := by decide +kernel
theorem dX4_execute_58 : decode cX4_execute 58 = .ok (.aload_n 0, 1) := by decide +kernel
theorem dX4_execute_59 : decode cX4_execute 59 = .ok (.getfield 16, 3) := by decide +kernel
theorem dX4_execute_62 : decode cX4_execute 62 = .ok (.invokevirtual 269, 3) := by decide +kernel
theorem dX4_execute_65 : decode cX4_execute 65 = .ok (.sipush (-300), 3) := by decide +kernel
theorem dX4_execute_68 : decode cX4_execute 68 = .ok (.iload_n 3, 1) := by decide +kernel
theorem dX4_execute_69 : decode cX4_execute 69 = .ok (.isub, 1) := by decide +kernel
theorem dX4_execute_70 : decode cX4_execute 70 = .ok (.ireturn, 1) := by decide +kernel
theorem dX4_execute_71 : decode cX4_execute 71 = .ok (.iinc 3 1, 3) := by decide +kernel
theorem dX4_execute_74 : decode cX4_execute 74 = .ok (.goto (-33), 3) := by decide +kernel
theorem dX4_execute_77 : decode cX4_execute 77 = .ok (.aload_n 0, 1) := by decide +kernel
theorem dX4_execute_78 : decode cX4_execute 78 = .ok (.iload_n 2, 1) := by decide +kernel
theorem dX4_execute_79 : decode cX4_execute 79 = .ok (.invokevirtual 65, 3) := by decide +kernel
theorem dX4_execute_82 : decode cX4_execute 82 = .ok (.ireturn, 1) := by decide +kernel
theorem dX4_runCommand_0 : decode cX4_runCommand 0 = .ok (.aload_n 0, 1) := by decide +kernel
theorem dX4_runCommand_1 : decode cX4_runCommand 1 = .ok (.getfield 36, 3) := by decide +kernel
theorem dX4_runCommand_4 : decode cX4_runCommand 4 = .ok (.iload_n 1, 1) := by decide +kernel
theorem dX4_runCommand_5 : decode cX4_runCommand 5 = .ok (.iconst 0, 1) := by decide +kernel
theorem dX4_runCommand_6 : decode cX4_runCommand 6 = .ok (.invokevirtual 273, 3) := by decide +kernel
theorem dX4_runCommand_9 : decode cX4_runCommand 9 = .ok (.istore_n 2, 1) := by decide +kernel
theorem dX4_runCommand_10 : decode cX4_runCommand 10 = .ok (.aload_n 0, 1) := by decide +kernel
theorem dX4_runCommand_11 : decode cX4_runCommand 11 = .ok (.getfield 36, 3) := by decide +kernel
theorem dX4_runCommand_14 : decode cX4_runCommand 14 = .ok (.iload_n 1, 1) := by decide +kernel
theorem dX4_runCommand_15 : decode cX4_runCommand 15 = .ok (.iconst 1, 1) := by decide +kernel
theorem dX4_runCommand_16 : decode cX4_runCommand 16 = .ok (.invokevirtual 273, 3) := by decide +kernel
theorem dX4_runCommand_19 : decode cX4_runCommand 19 = .ok (.istore_n 3, 1) := by decide +kernel
theorem dX4_runCommand_20 : decode cX4_runCommand 20 = .ok (.aload_n 0, 1) := by decide +kernel
theorem dX4_runCommand_21 : decode cX4_runCommand 21 = .ok (.getfield 36, 3) := by decide +kernel
theorem dX4_runCommand_24 : decode cX4_runCommand 24 = .ok (.iload_n 1, 1) := by decide +kernel
theorem dX4_runCommand_25 : decode cX4_runCommand 25 = .ok (.invokevirtual 276, 3) := by decide +kernel
theorem dX4_runCommand_28 : decode cX4_runCommand 28 = .ok (.tableswitch 137 99 114 #[110, 123, 137, 137, 137, 94, 87, 137, 137, 137, 137, 137, 80, 129, 137, 117], 80) := by decide +kernel
theorem dX4_runCommand_108 : decode cX4_runCommand 108 = .ok (.aload_n 0, 1) := by decide +kernel
theorem dX4_runCommand_109 : decode cX4_runCommand 109 = .ok (.iload_n 2, 1) := by decide +kernel
theorem dX4_runCommand_110 : decode cX4_runCommand 110 = .ok (.iload_n 3, 1) := by decide +kernel
theorem dX4_runCommand_111 : decode cX4_runCommand 111 = .ok (.invokevirtual 131, 3) := by decide +kernel
theorem dX4_runCommand_114 : decode cX4_runCommand 114 = .ok (.ireturn, 1) := by decide +kernel
theorem dX4_runCommand_115 : decode cX4_runCommand 115 = .ok (.aload_n 0, 1) := by decide +kernel
theorem dX4_runCommand_116 : decode cX4_runCommand 116 = .ok (.iload_n 2, 1) := by decide +kernel
theorem dX4_runCommand_117 : decode cX4_runCommand 117 = .ok (.iload_n 3, 1) := by decide +kernel
theorem dX4_runCommand_118 : decode cX4_runCommand 118 = .ok (.invokevirtual 155, 3) := by decide +kernel
theorem dX4_runCommand_121 : decode cX4_runCommand 121 = .ok (.ireturn, 1) := by decide +kernel
theorem dX4_runCommand_122 : decode cX4_runCommand 122 = .ok (.aload_n 0, 1) := by decide +kernel
theorem dX4_runCommand_123 : decode cX4_runCommand 123 = .ok (.iload_n 2, 1) := by decide +kernel
theorem dX4_runCommand_124 : decode cX4_runCommand 124 = .ok (.iload_n 3, 1) := by decide +kernel
theorem dX4_runCommand_125 : decode cX4_runCommand 125 = .ok (.aload_n 0, 1) := by decide +kernel
theorem dX4_runCommand_126 : decode cX4_runCommand 126 = .ok (.getfield 36, 3) := by decide +kernel
theorem dX4_runCommand_129 : decode cX4_runCommand 129 = .ok (.iload_n 1, 1) := by decide +kernel
theorem dX4_runCommand_130 : decode cX4_runCommand 130 = .ok (.iconst 2, 1) := by decide +kernel
theorem dX4_runCommand_131 : decode cX4_runCommand 131 = .ok (.invokevirtual 273, 3) := by decide +kernel
theorem dX4_runCommand_134 : decode cX4_runCommand 134 = .ok (.invokevirtual 185, 3) := by decide +kernel
theorem dX4_runCommand_137 : decode cX4_runCommand 137 = .ok (.ireturn, 1) := by decide +kernel
theorem dX4_runCommand_138 : decode cX4_runCommand 138 = .ok (.aload_n 0, 1) := by decide +kernel
theorem dX4_runCommand_139 : decode cX4_runCommand 139 = .ok (.iload_n 2, 1) := by decide +kernel
theorem dX4_runCommand_140 : decode cX4_runCommand 140 = .ok (.iload_n 3, 1) := by decide +kernel
theorem dX4_runCommand_141 : decode cX4_runCommand 141 = .ok (.invokevirtual 210, 3) := by decide +kernel
theorem dX4_runCommand_144 : decode cX4_runCommand 144 = .ok (.ireturn, 1) := by decide +kernel
theorem dX4_runCommand_145 : decode cX4_runCommand 145 = .ok (.aload_n 0, 1) := by decide +kernel
theorem dX4_runCommand_146 : decode cX4_runCommand 146 = .ok (.iload_n 2, 1) := by decide +kernel
theorem dX4_runCommand_147 : decode cX4_runCommand 147 = .ok (.invokevirtual 167, 3) := by decide +kernel
theorem dX4_runCommand_150 : decode cX4_runCommand 150 = .ok (.ireturn, 1) := by decide +kernel
theorem dX4_runCommand_151 : decode cX4_runCommand 151 = .ok (.aload_n 0, 1) := by decide +kernel
theorem dX4_runCommand_152 : decode cX4_runCommand 152 = .ok (.iload_n 2, 1) := by decide +kernel
theorem dX4_runCommand_153 : decode cX4_runCommand 153 = .ok (.invokevirtual 102, 3) := by decide +kernel
theorem dX4_runCommand_156 : decode cX4_runCommand 156 = .ok (.ireturn, 1) := by decide +kernel
theorem dX4_runCommand_157 : decode cX4_runCommand 157 = .ok (.aload_n 0, 1) := by decide +kernel
theorem dX4_runCommand_158 : decode cX4_runCommand 158 = .ok (.iconst 3, 1) := by decide +kernel
theorem dX4_runCommand_159 : decode cX4_runCommand 159 = .ok (.iload_n 2, 1) := by decide +kernel
theorem dX4_runCommand_160 : decode cX4_runCommand 160 = .ok (.iload_n 3, 1) := by decide +kernel
theorem dX4_runCommand_161 : decode cX4_runCommand 161 = .ok (.invokevirtual 241, 3) := by decide +kernel
theorem dX4_runCommand_164 : decode cX4_runCommand 164 = .ok (.ireturn, 1) := by decide +kernel
theorem dX4_runCommand_165 : decode cX4_runCommand 165 = .ok (.iconst (-1), 1) := by decide +kernel
theorem dX4_runCommand_166 : decode cX4_runCommand 166 = .ok (.ireturn, 1) := by decide +kernel
theorem dX4_save_0 : decode cX4_save 0 = .ok (.aload_n 0, 1) := by decide +kernel
theorem dX4_save_1 : decode cX4_save 1 = .ok (.getfield 19, 3) := by decide +kernel
theorem dX4_save_4 : decode cX4_save 4 = .ok (.aload_n 0, 1) := by decide +kernel
theorem dX4_save_5 : decode cX4_save 5 = .ok (.getfield 10, 3) := by decide +kernel
theorem dX4_save_8 : decode cX4_save 8 = .ok (.invokevirtual 269, 3) := by decide +kernel
theorem dX4_save_11 : decode cX4_save 11 = .ok (.aload_n 0, 1) := by decide +kernel
theorem dX4_save_12 : decode cX4_save 12 = .ok (.iconst 1, 1) := by decide +kernel
theorem dX4_save_13 : decode cX4_save 13 = .ok (.putfield 22, 3) := by decide +kernel
theorem dX4_save_16 : decode cX4_save 16 = .ok (.aload_n 0, 1) := by decide +kernel
theorem dX4_save_17 : decode cX4_save 17 = .ok (.getfield 10, 3) := by decide +kernel
theorem dX4_save_20 : decode cX4_save 20 = .ok (.getfield 98, 3) := by decide +kernel
theorem dX4_save_23 : decode cX4_save 23 = .ok (.ireturn, 1) := by decide +kernel
theorem dX4_restore_0 : decode cX4_restore 0 = .ok (.aload_n 0, 1) := by decide +kernel
theorem dX4_restore_1 : decode cX4_restore 1 = .ok (.getfield 22, 3) := by decide +kernel
theorem dX4_restore_4 : decode cX4_restore 4 = .ok (.ifCond .ne 6, 3) := by decide +kernel
theorem dX4_restore_7 : decode cX4_restore 7 = .ok (.bipush (-2), 2) := by decide +kernel
theorem dX4_restore_9 : decode cX4_restore 9 = .ok (.ireturn, 1) := by decide +kernel
theorem dX4_restore_10 : decode cX4_restore 10 = .ok (.aload_n 0, 1) := by decide +kernel
theorem dX4_restore_11 : decode cX4_restore 11 = .ok (.getfield 10, 3) := by decide +kernel
theorem dX4_restore_14 : decode cX4_restore 14 = .ok (.aload_n 0, 1) := by decide +kernel
theorem dX4_restore_15 : decode cX4_restore 15 = .ok (.getfield 19, 3) := by decide +kernel
theorem dX4_restore_18 : decode cX4_restore 18 = .ok (.invokevirtual 269, 3) := by decide +kernel
theorem dX4_restore_21 : decode cX4_restore 21 = .ok (.aload_n 0, 1) := by decide +kernel
theorem dX4_restore_22 : decode cX4_restore 22 = .ok (.aload_n 0, 1) := by decide +kernel
theorem dX4_restore_23 : decode cX4_restore 23 = .ok (.getfield 10, 3) := by decide +kernel
theorem dX4_restore_26 : decode cX4_restore 26 = .ok (.getfield 98, 3) := by decide +kernel
theorem dX4_restore_29 : decode cX4_restore 29 = .ok (.invokevirtual 65, 3) := by decide +kernel
theorem dX4_restore_32 : decode cX4_restore 32 = .ok (.ireturn, 1) := by decide +kernel
theorem dX4_undo_0 : decode cX4_undo 0 = .ok (.aload_n 0, 1) := by decide +kernel
theorem dX4_undo_1 : decode cX4_undo 1 = .ok (.getfield 29, 3) := by decide +kernel
theorem dX4_undo_4 : decode cX4_undo 4 = .ok (.invokevirtual 279, 3) := by decide +kernel
theorem dX4_undo_7 : decode cX4_undo 7 = .ok (.ifCond .eq 6, 3) := by decide +kernel
theorem dX4_undo_10 : decode cX4_undo 10 = .ok (.bipush (-2), 2) := by decide +kernel
theorem dX4_undo_12 : decode cX4_undo 12 = .ok (.ireturn, 1) := by decide +kernel
theorem dX4_undo_13 : decode cX4_undo 13 = .ok (.aload_n 0, 1) := by decide +kernel
theorem dX4_undo_14 : decode cX4_undo 14 = .ok (.getfield 29, 3) := by decide +kernel
theorem dX4_undo_17 : decode cX4_undo 17 = .ok (.aload_n 0, 1) := by decide +kernel
theorem dX4_undo_18 : decode cX4_undo 18 = .ok (.getfield 10, 3) := by decide +kernel
theorem dX4_undo_21 : decode cX4_undo 21 = .ok (.invokevirtual 282, 3) := by decide +kernel
theorem dX4_undo_24 : decode cX4_undo 24 = .ok (.aload_n 0, 1) := by decide +kernel
theorem dX4_undo_25 : decode cX4_undo 25 = .ok (.getfield 16, 3) := by decide +kernel
theorem dX4_undo_28 : decode cX4_undo 28 = .ok (.aload_n 0, 1) := by decide +kernel
theorem dX4_undo_29 : decode cX4_undo 29 = .ok (.getfield 10, 3) := by decide +kernel
theorem dX4_undo_32 : decode cX4_undo 32 = .ok (.invokevirtual 269, 3) := by decide +kernel
theorem dX4_undo_35 : decode cX4_undo 35 = .ok (.aload_n 0, 1) := by decide +kernel
theorem dX4_undo_36 : decode cX4_undo 36 = .ok (.getfield 29, 3) := by decide +kernel
theorem dX4_undo_39 : decode cX4_undo 39 = .ok (.invokevirtual 285, 3) := by decide +kernel
theorem dX4_undo_42 : decode cX4_undo 42 = .ok (.ireturn, 1) := by decide +kernel
theorem dX4_settle_0 : decode cX4_settle 0 = .ok (.iload_n 1, 1) := by decide +kernel
theorem dX4_settle_1 : decode cX4_settle 1 = .ok (.ifCond .lt 7, 3) := by decide +kernel
theorem dX4_settle_4 : decode cX4_settle 4 = .ok (.aload_n 0, 1) := by decide +kernel
theorem dX4_settle_5 : decode cX4_settle 5 = .ok (.invokevirtual 182, 3) := by decide +kernel
theorem dX4_settle_8 : decode cX4_settle 8 = .ok (.iload_n 1, 1) := by decide +kernel
theorem dX4_settle_9 : decode cX4_settle 9 = .ok (.ireturn, 1) := by decide +kernel
theorem dX4_commit_0 : decode cX4_commit 0 = .ok (.aload_n 0, 1) := by decide +kernel
theorem dX4_commit_1 : decode cX4_commit 1 = .ok (.getfield 29, 3) := by decide +kernel
theorem dX4_commit_4 : decode cX4_commit 4 = .ok (.aload_n 0, 1) := by decide +kernel
theorem dX4_commit_5 : decode cX4_commit 5 = .ok (.getfield 16, 3) := by decide +kernel
theorem dX4_commit_8 : decode cX4_commit 8 = .ok (.invokevirtual 286, 3) := by decide +kernel
theorem dX4_commit_11 : decode cX4_commit 11 = .ok (.aload_n 0, 1) := by decide +kernel
theorem dX4_commit_12 : decode cX4_commit 12 = .ok (.getfield 16, 3) := by decide +kernel
theorem dX4_commit_15 : decode cX4_commit 15 = .ok (.aload_n 0, 1) := by decide +kernel
theorem dX4_commit_16 : decode cX4_commit 16 = .ok (.getfield 10, 3) := by decide +kernel
theorem dX4_commit_19 : decode cX4_commit 19 = .ok (.invokevirtual 269, 3) := by decide +kernel
theorem dX4_commit_22 : decode cX4_commit 22 = .ok (.return_, 1) := by decide +kernel
theorem dX4_refusal_0 : decode cX4_refusal 0 = .ok (.iload_n 0, 1) := by decide +kernel
theorem dX4_refusal_1 : decode cX4_refusal 1 = .ok (.ifCond .ge 7, 3) := by decide +kernel
theorem dX4_refusal_4 : decode cX4_refusal 4 = .ok (.iload_n 0, 1) := by decide +kernel
theorem dX4_refusal_5 : decode cX4_refusal 5 = .ok (.goto 7, 3) := by decide +kernel
theorem dX4_refusal_8 : decode cX4_refusal 8 = .ok (.bipush (-100), 2) := by decide +kernel
theorem dX4_refusal_10 : decode cX4_refusal 10 = .ok (.iload_n 0, 1) := by decide +kernel
theorem dX4_refusal_11 : decode cX4_refusal 11 = .ok (.isub, 1) := by decide +kernel
theorem dX4_refusal_12 : decode cX4_refusal 12 = .ok (.ireturn, 1) := by decide +kernel
theorem dX4_isBranch_0 : decode cX4_isBranch 0 = .ok (.iload_n 0, 1) := by decide +kernel
theorem dX4_isBranch_1 : decode cX4_isBranch 1 = .ok (.ifCond .lt 12, 3) := by decide +kernel
theorem dX4_isBranch_4 : decode cX4_isBranch 4 = .ok (.iload_n 0, 1) := by decide +kernel
theorem dX4_isBranch_5 : decode cX4_isBranch 5 = .ok (.iconst 4, 1) := by decide +kernel
theorem dX4_isBranch_6 : decode cX4_isBranch 6 = .ok (.if_icmp .ge 7, 3) := by decide +kernel
theorem dX4_isBranch_9 : decode cX4_isBranch 9 = .ok (.iconst 1, 1) := by decide +kernel
theorem dX4_isBranch_10 : decode cX4_isBranch 10 = .ok (.goto 4, 3) := by decide +kernel
theorem dX4_isBranch_13 : decode cX4_isBranch 13 = .ok (.iconst 0, 1) := by decide +kernel
theorem dX4_isBranch_14 : decode cX4_isBranch 14 = .ok (.ireturn, 1) := by decide +kernel
theorem dX4_isTitle_0 : decode cX4_isTitle 0 = .ok (.iload_n 0, 1) := by decide +kernel
theorem dX4_isTitle_1 : decode cX4_isTitle 1 = .ok (.ifCond .lt 13, 3) := by decide +kernel
theorem dX4_isTitle_4 : decode cX4_isTitle 4 = .ok (.iload_n 0, 1) := by decide +kernel
theorem dX4_isTitle_5 : decode cX4_isTitle 5 = .ok (.bipush 6, 2) := by decide +kernel
theorem dX4_isTitle_7 : decode cX4_isTitle 7 = .ok (.if_icmp .ge 7, 3) := by decide +kernel
theorem dX4_isTitle_10 : decode cX4_isTitle 10 = .ok (.iconst 1, 1) := by decide +kernel
theorem dX4_isTitle_11 : decode cX4_isTitle 11 = .ok (.goto 4, 3) := by decide +kernel
theorem dX4_isTitle_14 : decode cX4_isTitle 14 = .ok (.iconst 0, 1) := by decide +kernel
theorem dX4_isTitle_15 : decode cX4_isTitle 15 = .ok (.ireturn, 1) := by decide +kernel
theorem dX4_isCopy_0 : decode cX4_isCopy 0 = .ok (.aload_n 0, 1) := by decide +kernel
theorem dX4_isCopy_1 : decode cX4_isCopy 1 = .ok (.getfield 10, 3) := by decide +kernel
theorem dX4_isCopy_4 : decode cX4_isCopy 4 = .ok (.getfield 47, 3) := by decide +kernel
theorem dX4_isCopy_7 : decode cX4_isCopy 7 = .ok (.iload_n 1, 1) := by decide +kernel
theorem dX4_isCopy_8 : decode cX4_isCopy 8 = .ok (.invokevirtual 75, 3) := by decide +kernel
theorem dX4_isCopy_11 : decode cX4_isCopy 11 = .ok (.ireturn, 1) := by decide +kernel
theorem dX4_isPatron_0 : decode cX4_isPatron 0 = .ok (.aload_n 0, 1) := by decide +kernel
theorem dX4_isPatron_1 : decode cX4_isPatron 1 = .ok (.getfield 10, 3) := by decide +kernel
theorem dX4_isPatron_4 : decode cX4_isPatron 4 = .ok (.getfield 69, 3) := by decide +kernel
theorem dX4_isPatron_7 : decode cX4_isPatron 7 = .ok (.iload_n 1, 1) := by decide +kernel
theorem dX4_isPatron_8 : decode cX4_isPatron 8 = .ok (.invokevirtual 75, 3) := by decide +kernel
theorem dX4_isPatron_11 : decode cX4_isPatron 11 = .ok (.ireturn, 1) := by decide +kernel
theorem dX4_isInRange_0 : decode cX4_isInRange 0 = .ok (.iload_n 0, 1) := by decide +kernel
theorem dX4_isInRange_1 : decode cX4_isInRange 1 = .ok (.ifCond .lt 19, 3) := by decide +kernel
theorem dX4_isInRange_4 : decode cX4_isInRange 4 = .ok (.iload_n 0, 1) := by decide +kernel
theorem dX4_isInRange_5 : decode cX4_isInRange 5 = .ok (.getstatic 289, 3) := by decide +kernel
theorem dX4_isInRange_8 : decode cX4_isInRange 8 = .ok (.arraylength, 1) := by decide +kernel
theorem dX4_isInRange_9 : decode cX4_isInRange 9 = .ok (.if_icmp .ge 11, 3) := by decide +kernel
theorem dX4_isInRange_12 : decode cX4_isInRange 12 = .ok (.iload_n 0, 1) := by decide +kernel
theorem dX4_isInRange_13 : decode cX4_isInRange 13 = .ok (.getstatic 293, 3) := by decide +kernel
theorem dX4_isInRange_16 : decode cX4_isInRange 16 = .ok (.arraylength, 1) := by decide +kernel
theorem dX4_isInRange_17 : decode cX4_isInRange 17 = .ok (.if_icmp .lt 5, 3) := by decide +kernel
theorem dX4_isInRange_20 : decode cX4_isInRange 20 = .ok (.iconst 0, 1) := by decide +kernel
theorem dX4_isInRange_21 : decode cX4_isInRange 21 = .ok (.ireturn, 1) := by decide +kernel
theorem dX4_isInRange_22 : decode cX4_isInRange 22 = .ok (.iload_n 1, 1) := by decide +kernel
theorem dX4_isInRange_23 : decode cX4_isInRange 23 = .ok (.getstatic 289, 3) := by decide +kernel
theorem dX4_isInRange_26 : decode cX4_isInRange 26 = .ok (.iload_n 0, 1) := by decide +kernel
theorem dX4_isInRange_27 : decode cX4_isInRange 27 = .ok (.iaload, 1) := by decide +kernel
theorem dX4_isInRange_28 : decode cX4_isInRange 28 = .ok (.if_icmp .lt 16, 3) := by decide +kernel
theorem dX4_isInRange_31 : decode cX4_isInRange 31 = .ok (.iload_n 1, 1) := by decide +kernel
theorem dX4_isInRange_32 : decode cX4_isInRange 32 = .ok (.getstatic 293, 3) := by decide +kernel
theorem dX4_isInRange_35 : decode cX4_isInRange 35 = .ok (.iload_n 0, 1) := by decide +kernel
theorem dX4_isInRange_36 : decode cX4_isInRange 36 = .ok (.iaload, 1) := by decide +kernel
theorem dX4_isInRange_37 : decode cX4_isInRange 37 = .ok (.if_icmp .gt 7, 3) := by decide +kernel
theorem dX4_isInRange_40 : decode cX4_isInRange 40 = .ok (.iconst 1, 1) := by decide +kernel
theorem dX4_isInRange_41 : decode cX4_isInRange 41 = .ok (.goto 4, 3) := by decide +kernel
theorem dX4_isInRange_44 : decode cX4_isInRange 44 = .ok (.iconst 0, 1) := by decide +kernel
theorem dX4_isInRange_45 : decode cX4_isInRange 45 = .ok (.ireturn, 1) := by decide +kernel
theorem dX4_valueOf_0 : decode cX4_valueOf 0 = .ok (.aload_n 0, 1) := by decide +kernel
theorem dX4_valueOf_1 : decode cX4_valueOf 1 = .ok (.getfield 10, 3) := by decide +kernel
theorem dX4_valueOf_4 : decode cX4_valueOf 4 = .ok (.getfield 72, 3) := by decide +kernel
theorem dX4_valueOf_7 : decode cX4_valueOf 7 = .ok (.iload_n 1, 1) := by decide +kernel
theorem dX4_valueOf_8 : decode cX4_valueOf 8 = .ok (.iconst 0, 1) := by decide +kernel
theorem dX4_valueOf_9 : decode cX4_valueOf 9 = .ok (.invokevirtual 88, 3) := by decide +kernel
theorem dX4_valueOf_12 : decode cX4_valueOf 12 = .ok (.ireturn, 1) := by decide +kernel
theorem dX4_stateOf_0 : decode cX4_stateOf 0 = .ok (.aload_n 0, 1) := by decide +kernel
theorem dX4_stateOf_1 : decode cX4_stateOf 1 = .ok (.getfield 10, 3) := by decide +kernel
theorem dX4_stateOf_4 : decode cX4_stateOf 4 = .ok (.getfield 47, 3) := by decide +kernel
theorem dX4_stateOf_7 : decode cX4_stateOf 7 = .ok (.iload_n 1, 1) := by decide +kernel
theorem dX4_stateOf_8 : decode cX4_stateOf 8 = .ok (.iconst 3, 1) := by decide +kernel
theorem dX4_stateOf_9 : decode cX4_stateOf 9 = .ok (.invokevirtual 88, 3) := by decide +kernel
theorem dX4_stateOf_12 : decode cX4_stateOf 12 = .ok (.ireturn, 1) := by decide +kernel
theorem dX4_titleOf_0 : decode cX4_titleOf 0 = .ok (.aload_n 0, 1) := by decide +kernel
theorem dX4_titleOf_1 : decode cX4_titleOf 1 = .ok (.getfield 10, 3) := by decide +kernel
theorem dX4_titleOf_4 : decode cX4_titleOf 4 = .ok (.getfield 47, 3) := by decide +kernel
theorem dX4_titleOf_7 : decode cX4_titleOf 7 = .ok (.iload_n 1, 1) := by decide +kernel
theorem dX4_titleOf_8 : decode cX4_titleOf 8 = .ok (.iconst 0, 1) := by decide +kernel
theorem dX4_titleOf_9 : decode cX4_titleOf 9 = .ok (.invokevirtual 88, 3) := by decide +kernel
theorem dX4_titleOf_12 : decode cX4_titleOf 12 = .ok (.ireturn, 1) := by decide +kernel
theorem dX4_isAt_0 : decode cX4_isAt 0 = .ok (.aload_n 0, 1) := by decide +kernel
theorem dX4_isAt_1 : decode cX4_isAt 1 = .ok (.iload_n 1, 1) := by decide +kernel
theorem dX4_isAt_2 : decode cX4_isAt 2 = .ok (.invokevirtual 95, 3) := by decide +kernel
theorem dX4_isAt_5 : decode cX4_isAt 5 = .ok (.iload_n 2, 1) := by decide +kernel
theorem dX4_isAt_6 : decode cX4_isAt 6 = .ok (.if_icmp .ne 23, 3) := by decide +kernel
theorem dX4_isAt_9 : decode cX4_isAt 9 = .ok (.aload_n 0, 1) := by decide +kernel
theorem dX4_isAt_10 : decode cX4_isAt 10 = .ok (.getfield 10, 3) := by decide +kernel
theorem dX4_isAt_13 : decode cX4_isAt 13 = .ok (.getfield 47, 3) := by decide +kernel
theorem dX4_isAt_16 : decode cX4_isAt 16 = .ok (.iload_n 1, 1) := by decide +kernel
theorem dX4_isAt_17 : decode cX4_isAt 17 = .ok (.iconst 4, 1) := by decide +kernel
theorem dX4_isAt_18 : decode cX4_isAt 18 = .ok (.invokevirtual 88, 3) := by decide +kernel
theorem dX4_isAt_21 : decode cX4_isAt 21 = .ok (.iload_n 3, 1) := by decide +kernel
theorem dX4_isAt_22 : decode cX4_isAt 22 = .ok (.if_icmp .ne 7, 3) := by decide +kernel
theorem dX4_isAt_25 : decode cX4_isAt 25 = .ok (.iconst 1, 1) := by decide +kernel
theorem dX4_isAt_26 : decode cX4_isAt 26 = .ok (.goto 4, 3) := by decide +kernel
theorem dX4_isAt_29 : decode cX4_isAt 29 = .ok (.iconst 0, 1) := by decide +kernel
theorem dX4_isAt_30 : decode cX4_isAt 30 = .ok (.ireturn, 1) := by decide +kernel
theorem dX4_isWithPatron_0 : decode cX4_isWithPatron 0 = .ok (.aload_n 0, 1) := by decide +kernel
theorem dX4_isWithPatron_1 : decode cX4_isWithPatron 1 = .ok (.iload_n 1, 1) := by decide +kernel
theorem dX4_isWithPatron_2 : decode cX4_isWithPatron 2 = .ok (.invokevirtual 95, 3) := by decide +kernel
theorem dX4_isWithPatron_5 : decode cX4_isWithPatron 5 = .ok (.istore_n 2, 1) := by decide +kernel
theorem dX4_isWithPatron_6 : decode cX4_isWithPatron 6 = .ok (.iload_n 2, 1) := by decide +kernel
theorem dX4_isWithPatron_7 : decode cX4_isWithPatron 7 = .ok (.iconst 1, 1) := by decide +kernel
theorem dX4_isWithPatron_8 : decode cX4_isWithPatron 8 = .ok (.if_icmp .eq 13, 3) := by decide +kernel
theorem dX4_isWithPatron_11 : decode cX4_isWithPatron 11 = .ok (.iload_n 2, 1) := by decide +kernel
theorem dX4_isWithPatron_12 : decode cX4_isWithPatron 12 = .ok (.iconst 4, 1) := by decide +kernel
theorem dX4_isWithPatron_13 : decode cX4_isWithPatron 13 = .ok (.if_icmp .eq 8, 3) := by decide +kernel
theorem dX4_isWithPatron_16 : decode cX4_isWithPatron 16 = .ok (.iload_n 2, 1) := by decide +kernel
theorem dX4_isWithPatron_17 : decode cX4_isWithPatron 17 = .ok (.iconst 5, 1) := by decide +kernel
theorem dX4_isWithPatron_18 : decode cX4_isWithPatron 18 = .ok (.if_icmp .ne 7, 3) := by decide +kernel
theorem dX4_isWithPatron_21 : decode cX4_isWithPatron 21 = .ok (.iconst 1, 1) := by decide +kernel
theorem dX4_isWithPatron_22 : decode cX4_isWithPatron 22 = .ok (.goto 4, 3) := by decide +kernel
theorem dX4_isWithPatron_25 : decode cX4_isWithPatron 25 = .ok (.iconst 0, 1) := by decide +kernel
theorem dX4_isWithPatron_26 : decode cX4_isWithPatron 26 = .ok (.ireturn, 1) := by decide +kernel
theorem dX4_putCopy_0 : decode cX4_putCopy 0 = .ok (.aload_n 0, 1) := by decide +kernel
theorem dX4_putCopy_1 : decode cX4_putCopy 1 = .ok (.getfield 10, 3) := by decide +kernel
theorem dX4_putCopy_4 : decode cX4_putCopy 4 = .ok (.getfield 47, 3) := by decide +kernel
theorem dX4_putCopy_7 : decode cX4_putCopy 7 = .ok (.iload_n 1, 1) := by decide +kernel
theorem dX4_putCopy_8 : decode cX4_putCopy 8 = .ok (.iconst 3, 1) := by decide +kernel
theorem dX4_putCopy_9 : decode cX4_putCopy 9 = .ok (.iload_n 2, 1) := by decide +kernel
theorem dX4_putCopy_10 : decode cX4_putCopy 10 = .ok (.invokevirtual 57, 3) := by decide +kernel
theorem dX4_putCopy_13 : decode cX4_putCopy 13 = .ok (.aload_n 0, 1) := by decide +kernel
theorem dX4_putCopy_14 : decode cX4_putCopy 14 = .ok (.getfield 10, 3) := by decide +kernel
theorem dX4_putCopy_17 : decode cX4_putCopy 17 = .ok (.getfield 47, 3) := by decide +kernel
theorem dX4_putCopy_20 : decode cX4_putCopy 20 = .ok (.iload_n 1, 1) := by decide +kernel
theorem dX4_putCopy_21 : decode cX4_putCopy 21 = .ok (.iconst 4, 1) := by decide +kernel
theorem dX4_putCopy_22 : decode cX4_putCopy 22 = .ok (.iload_n 3, 1) := by decide +kernel
theorem dX4_putCopy_23 : decode cX4_putCopy 23 = .ok (.invokevirtual 57, 3) := by decide +kernel
theorem dX4_putCopy_26 : decode cX4_putCopy 26 = .ok (.aload_n 0, 1) := by decide +kernel
theorem dX4_putCopy_27 : decode cX4_putCopy 27 = .ok (.getfield 10, 3) := by decide +kernel
theorem dX4_putCopy_30 : decode cX4_putCopy 30 = .ok (.getfield 47, 3) := by decide +kernel
theorem dX4_putCopy_33 : decode cX4_putCopy 33 = .ok (.iload_n 1, 1) := by decide +kernel
theorem dX4_putCopy_34 : decode cX4_putCopy 34 = .ok (.bipush 6, 2) := by decide +kernel
theorem dX4_putCopy_36 : decode cX4_putCopy 36 = .ok (.iload 4, 2) := by decide +kernel
theorem dX4_putCopy_38 : decode cX4_putCopy 38 = .ok (.invokevirtual 57, 3) := by decide +kernel
theorem dX4_putCopy_41 : decode cX4_putCopy 41 = .ok (.return_, 1) := by decide +kernel
theorem dX4_putLoan_0 : decode cX4_putLoan 0 = .ok (.aload_n 0, 1) := by decide +kernel
theorem dX4_putLoan_1 : decode cX4_putLoan 1 = .ok (.getfield 10, 3) := by decide +kernel
theorem dX4_putLoan_4 : decode cX4_putLoan 4 = .ok (.getfield 47, 3) := by decide +kernel
theorem dX4_putLoan_7 : decode cX4_putLoan 7 = .ok (.iload_n 1, 1) := by decide +kernel
theorem dX4_putLoan_8 : decode cX4_putLoan 8 = .ok (.bipush 7, 2) := by decide +kernel
theorem dX4_putLoan_10 : decode cX4_putLoan 10 = .ok (.iload_n 2, 1) := by decide +kernel
theorem dX4_putLoan_11 : decode cX4_putLoan 11 = .ok (.invokevirtual 57, 3) := by decide +kernel
theorem dX4_putLoan_14 : decode cX4_putLoan 14 = .ok (.aload_n 0, 1) := by decide +kernel
theorem dX4_putLoan_15 : decode cX4_putLoan 15 = .ok (.getfield 10, 3) := by decide +kernel
theorem dX4_putLoan_18 : decode cX4_putLoan 18 = .ok (.getfield 47, 3) := by decide +kernel
theorem dX4_putLoan_21 : decode cX4_putLoan 21 = .ok (.iload_n 1, 1) := by decide +kernel
theorem dX4_putLoan_22 : decode cX4_putLoan 22 = .ok (.bipush 8, 2) := by decide +kernel
theorem dX4_putLoan_24 : decode cX4_putLoan 24 = .ok (.iload_n 3, 1) := by decide +kernel
theorem dX4_putLoan_25 : decode cX4_putLoan 25 = .ok (.invokevirtual 57, 3) := by decide +kernel
theorem dX4_putLoan_28 : decode cX4_putLoan 28 = .ok (.aload_n 0, 1) := by decide +kernel
theorem dX4_putLoan_29 : decode cX4_putLoan 29 = .ok (.getfield 10, 3) := by decide +kernel
theorem dX4_putLoan_32 : decode cX4_putLoan 32 = .ok (.getfield 47, 3) := by decide +kernel
theorem dX4_putLoan_35 : decode cX4_putLoan 35 = .ok (.iload_n 1, 1) := by decide +kernel
theorem dX4_putLoan_36 : decode cX4_putLoan 36 = .ok (.bipush 9, 2) := by decide +kernel
theorem dX4_putLoan_38 : decode cX4_putLoan 38 = .ok (.iload 4, 2) := by decide +kernel
theorem dX4_putLoan_40 : decode cX4_putLoan 40 = .ok (.invokevirtual 57, 3) := by decide +kernel
theorem dX4_putLoan_43 : decode cX4_putLoan 43 = .ok (.return_, 1) := by decide +kernel
theorem dX4_becomeFree_0 : decode cX4_becomeFree 0 = .ok (.aload_n 0, 1) := by decide +kernel
theorem dX4_becomeFree_1 : decode cX4_becomeFree 1 = .ok (.aload_n 0, 1) := by decide +kernel
theorem dX4_becomeFree_2 : decode cX4_becomeFree 2 = .ok (.iload_n 1, 1) := by decide +kernel
theorem dX4_becomeFree_3 : decode cX4_becomeFree 3 = .ok (.invokevirtual 118, 3) := by decide +kernel
theorem dX4_becomeFree_6 : decode cX4_becomeFree 6 = .ok (.invokevirtual 173, 3) := by decide +kernel
theorem dX4_becomeFree_9 : decode cX4_becomeFree 9 = .ok (.istore_n 3, 1) := by decide +kernel
theorem dX4_becomeFree_10 : decode cX4_becomeFree 10 = .ok (.iload_n 2, 1) := by decide +kernel
theorem dX4_becomeFree_11 : decode cX4_becomeFree 11 = .ok (.istore 4, 2) := by decide +kernel
theorem dX4_becomeFree_13 : decode cX4_becomeFree 13 = .ok (.bipush (-2), 2) := by decide +kernel
theorem dX4_becomeFree_15 : decode cX4_becomeFree 15 = .ok (.istore 5, 2) := by decide +kernel
theorem dX4_becomeFree_17 : decode cX4_becomeFree 17 = .ok (.iload_n 3, 1) := by decide +kernel
theorem dX4_becomeFree_18 : decode cX4_becomeFree 18 = .ok (.bipush (-2), 2) := by decide +kernel
theorem dX4_becomeFree_20 : decode cX4_becomeFree 20 = .ok (.if_icmp .eq 47, 3) := by decide +kernel
theorem dX4_becomeFree_23 : decode cX4_becomeFree 23 = .ok (.aload_n 0, 1) := by decide +kernel
theorem dX4_becomeFree_24 : decode cX4_becomeFree 24 = .ok (.getfield 10, 3) := by decide +kernel
theorem dX4_becomeFree_27 : decode cX4_becomeFree 27 = .ok (.getfield 192, 3) := by decide +kernel
theorem dX4_becomeFree_30 : decode cX4_becomeFree 30 = .ok (.iload_n 3, 1) := by decide +kernel
theorem dX4_becomeFree_31 : decode cX4_becomeFree 31 = .ok (.iconst 2, 1) := by decide +kernel
theorem dX4_becomeFree_32 : decode cX4_becomeFree 32 = .ok (.iload_n 1, 1) := by decide +kernel
theorem dX4_becomeFree_33 : decode cX4_becomeFree 33 = .ok (.invokevirtual 57, 3) := by decide +kernel
theorem dX4_becomeFree_36 : decode cX4_becomeFree 36 = .ok (.aload_n 0, 1) := by decide +kernel
theorem dX4_becomeFree_37 : decode cX4_becomeFree 37 = .ok (.getfield 10, 3) := by decide +kernel
theorem dX4_becomeFree_40 : decode cX4_becomeFree 40 = .ok (.getfield 192, 3) := by decide +kernel
theorem dX4_becomeFree_43 : decode cX4_becomeFree 43 = .ok (.iload_n 3, 1) := by decide +kernel
theorem dX4_becomeFree_44 : decode cX4_becomeFree 44 = .ok (.iconst 1, 1) := by decide +kernel
theorem dX4_becomeFree_45 : decode cX4_becomeFree 45 = .ok (.invokevirtual 88, 3) := by decide +kernel
theorem dX4_becomeFree_48 : decode cX4_becomeFree 48 = .ok (.istore 4, 2) := by decide +kernel
theorem dX4_becomeFree_50 : decode cX4_becomeFree 50 = .ok (.aload_n 0, 1) := by decide +kernel
theorem dX4_becomeFree_51 : decode cX4_becomeFree 51 = .ok (.getfield 10, 3) := by decide +kernel
theorem dX4_becomeFree_54 : decode cX4_becomeFree 54 = .ok (.getfield 192, 3) := by decide +kernel
theorem dX4_becomeFree_57 : decode cX4_becomeFree 57 = .ok (.iload_n 3, 1) := by decide +kernel
theorem dX4_becomeFree_58 : decode cX4_becomeFree 58 = .ok (.iconst 0, 1) := by decide +kernel
theorem dX4_becomeFree_59 : decode cX4_becomeFree 59 = .ok (.invokevirtual 88, 3) := by decide +kernel
theorem dX4_becomeFree_62 : decode cX4_becomeFree 62 = .ok (.istore 5, 2) := by decide +kernel
theorem dX4_becomeFree_64 : decode cX4_becomeFree 64 = .ok (.goto 32, 3) := by decide +kernel
theorem dX4_becomeFree_67 : decode cX4_becomeFree 67 = .ok (.aload_n 0, 1) := by decide +kernel
theorem dX4_becomeFree_68 : decode cX4_becomeFree 68 = .ok (.getfield 10, 3) := by decide +kernel
theorem dX4_becomeFree_71 : decode cX4_becomeFree 71 = .ok (.getfield 47, 3) := by decide +kernel
theorem dX4_becomeFree_74 : decode cX4_becomeFree 74 = .ok (.iload_n 1, 1) := by decide +kernel
theorem dX4_becomeFree_75 : decode cX4_becomeFree 75 = .ok (.iconst 2, 1) := by decide +kernel
theorem dX4_becomeFree_76 : decode cX4_becomeFree 76 = .ok (.invokevirtual 88, 3) := by decide +kernel
theorem dX4_becomeFree_79 : decode cX4_becomeFree 79 = .ok (.ifCond .ne 17, 3) := by decide +kernel
theorem dX4_becomeFree_82 : decode cX4_becomeFree 82 = .ok (.aload_n 0, 1) := by decide +kernel
theorem dX4_becomeFree_83 : decode cX4_becomeFree 83 = .ok (.getfield 10, 3) := by decide +kernel
theorem dX4_becomeFree_86 : decode cX4_becomeFree 86 = .ok (.getfield 47, 3) := by decide +kernel
theorem dX4_becomeFree_89 : decode cX4_becomeFree 89 = .ok (.iload_n 1, 1) := by decide +kernel
theorem dX4_becomeFree_90 : decode cX4_becomeFree 90 = .ok (.iconst 1, 1) := by decide +kernel
theorem dX4_becomeFree_91 : decode cX4_becomeFree 91 = .ok (.invokevirtual 88, 3) := by decide +kernel
theorem dX4_becomeFree_94 : decode cX4_becomeFree 94 = .ok (.istore 4, 2) := by decide +kernel
theorem dX4_becomeFree_96 : decode cX4_becomeFree 96 = .ok (.aload_n 0, 1) := by decide +kernel
theorem dX4_becomeFree_97 : decode cX4_becomeFree 97 = .ok (.iload_n 1, 1) := by decide +kernel
theorem dX4_becomeFree_98 : decode cX4_becomeFree 98 = .ok (.bipush (-2), 2) := by decide +kernel
theorem dX4_becomeFree_100 : decode cX4_becomeFree 100 = .ok (.bipush (-2), 2) := by decide +kernel
theorem dX4_becomeFree_102 : decode cX4_becomeFree 102 = .ok (.bipush (-2), 2) := by decide +kernel
theorem dX4_becomeFree_104 : decode cX4_becomeFree 104 = .ok (.invokevirtual 140, 3) := by decide +kernel
theorem dX4_becomeFree_107 : decode cX4_becomeFree 107 = .ok (.aload_n 0, 1) := by decide +kernel
theorem dX4_becomeFree_108 : decode cX4_becomeFree 108 = .ok (.getfield 10, 3) := by decide +kernel
theorem dX4_becomeFree_111 : decode cX4_becomeFree 111 = .ok (.getfield 47, 3) := by decide +kernel
theorem dX4_becomeFree_114 : decode cX4_becomeFree 114 = .ok (.iload_n 1, 1) := by decide +kernel
theorem dX4_becomeFree_115 : decode cX4_becomeFree 115 = .ok (.iconst 5, 1) := by decide +kernel
theorem dX4_becomeFree_116 : decode cX4_becomeFree 116 = .ok (.iload 5, 2) := by decide +kernel
theorem dX4_becomeFree_118 : decode cX4_becomeFree 118 = .ok (.invokevirtual 57, 3) := by decide +kernel
theorem dX4_becomeFree_121 : decode cX4_becomeFree 121 = .ok (.iload 4, 2) := by decide +kernel
theorem dX4_becomeFree_123 : decode cX4_becomeFree 123 = .ok (.iload_n 2, 1) := by decide +kernel
theorem dX4_becomeFree_124 : decode cX4_becomeFree 124 = .ok (.if_icmp .eq 28, 3) := by decide +kernel
theorem dX4_becomeFree_127 : decode cX4_becomeFree 127 = .ok (.aload_n 0, 1) := by decide +kernel
theorem dX4_becomeFree_128 : decode cX4_becomeFree 128 = .ok (.iload_n 1, 1) := by decide +kernel
theorem dX4_becomeFree_129 : decode cX4_becomeFree 129 = .ok (.iconst 2, 1) := by decide +kernel
theorem dX4_becomeFree_130 : decode cX4_becomeFree 130 = .ok (.iload 4, 2) := by decide +kernel
theorem dX4_becomeFree_132 : decode cX4_becomeFree 132 = .ok (.aload_n 0, 1) := by decide +kernel
theorem dX4_becomeFree_133 : decode cX4_becomeFree 133 = .ok (.getfield 10, 3) := by decide +kernel
theorem dX4_becomeFree_136 : decode cX4_becomeFree 136 = .ok (.getfield 98, 3) := by decide +kernel
theorem dX4_becomeFree_139 : decode cX4_becomeFree 139 = .ok (.iload_n 2, 1) := by decide +kernel
theorem dX4_becomeFree_140 : decode cX4_becomeFree 140 = .ok (.iload 4, 2) := by decide +kernel
theorem dX4_becomeFree_142 : decode cX4_becomeFree 142 = .ok (.invokestatic 296, 3) := by decide +kernel
theorem dX4_becomeFree_145 : decode cX4_becomeFree 145 = .ok (.iadd, 1) := by decide +kernel
theorem dX4_becomeFree_146 : decode cX4_becomeFree 146 = .ok (.invokevirtual 114, 3) := by decide +kernel
theorem dX4_becomeFree_149 : decode cX4_becomeFree 149 = .ok (.goto 41, 3) := by decide +kernel
theorem dX4_becomeFree_152 : decode cX4_becomeFree 152 = .ok (.iload_n 3, 1) := by decide +kernel
theorem dX4_becomeFree_153 : decode cX4_becomeFree 153 = .ok (.bipush (-2), 2) := by decide +kernel
theorem dX4_becomeFree_155 : decode cX4_becomeFree 155 = .ok (.if_icmp .eq 26, 3) := by decide +kernel
theorem dX4_becomeFree_158 : decode cX4_becomeFree 158 = .ok (.aload_n 0, 1) := by decide +kernel
theorem dX4_becomeFree_159 : decode cX4_becomeFree 159 = .ok (.iload_n 1, 1) := by decide +kernel
theorem dX4_becomeFree_160 : decode cX4_becomeFree 160 = .ok (.iconst 3, 1) := by decide +kernel
theorem dX4_becomeFree_161 : decode cX4_becomeFree 161 = .ok (.iload_n 2, 1) := by decide +kernel
theorem dX4_becomeFree_162 : decode cX4_becomeFree 162 = .ok (.aload_n 0, 1) := by decide +kernel
theorem dX4_becomeFree_163 : decode cX4_becomeFree 163 = .ok (.getfield 10, 3) := by decide +kernel
theorem dX4_becomeFree_166 : decode cX4_becomeFree 166 = .ok (.getfield 98, 3) := by decide +kernel
theorem dX4_becomeFree_169 : decode cX4_becomeFree 169 = .ok (.aload_n 0, 1) := by decide +kernel
theorem dX4_becomeFree_170 : decode cX4_becomeFree 170 = .ok (.iconst 5, 1) := by decide +kernel
theorem dX4_becomeFree_171 : decode cX4_becomeFree 171 = .ok (.invokevirtual 82, 3) := by decide +kernel
theorem dX4_becomeFree_174 : decode cX4_becomeFree 174 = .ok (.iadd, 1) := by decide +kernel
theorem dX4_becomeFree_175 : decode cX4_becomeFree 175 = .ok (.invokevirtual 114, 3) := by decide +kernel
theorem dX4_becomeFree_178 : decode cX4_becomeFree 178 = .ok (.goto 12, 3) := by decide +kernel
theorem dX4_becomeFree_181 : decode cX4_becomeFree 181 = .ok (.aload_n 0, 1) := by decide +kernel
theorem dX4_becomeFree_182 : decode cX4_becomeFree 182 = .ok (.iload_n 1, 1) := by decide +kernel
theorem dX4_becomeFree_183 : decode cX4_becomeFree 183 = .ok (.iconst 0, 1) := by decide +kernel
theorem dX4_becomeFree_184 : decode cX4_becomeFree 184 = .ok (.iload_n 2, 1) := by decide +kernel
theorem dX4_becomeFree_185 : decode cX4_becomeFree 185 = .ok (.bipush (-2), 2) := by decide +kernel
theorem dX4_becomeFree_187 : decode cX4_becomeFree 187 = .ok (.invokevirtual 114, 3) := by decide +kernel
theorem dX4_becomeFree_190 : decode cX4_becomeFree 190 = .ok (.return_, 1) := by decide +kernel
theorem dX4_becomeLost_0 : decode cX4_becomeLost 0 = .ok (.aload_n 0, 1) := by decide +kernel
theorem dX4_becomeLost_1 : decode cX4_becomeLost 1 = .ok (.getfield 10, 3) := by decide +kernel
theorem dX4_becomeLost_4 : decode cX4_becomeLost 4 = .ok (.getfield 47, 3) := by decide +kernel
theorem dX4_becomeLost_7 : decode cX4_becomeLost 7 = .ok (.iload_n 1, 1) := by decide +kernel
theorem dX4_becomeLost_8 : decode cX4_becomeLost 8 = .ok (.iconst 4, 1) := by decide +kernel
theorem dX4_becomeLost_9 : decode cX4_becomeLost 9 = .ok (.invokevirtual 88, 3) := by decide +kernel
theorem dX4_becomeLost_12 : decode cX4_becomeLost 12 = .ok (.istore_n 2, 1) := by decide +kernel
theorem dX4_becomeLost_13 : decode cX4_becomeLost 13 = .ok (.aload_n 0, 1) := by decide +kernel
theorem dX4_becomeLost_14 : decode cX4_becomeLost 14 = .ok (.bipush 6, 2) := by decide +kernel
theorem dX4_becomeLost_16 : decode cX4_becomeLost 16 = .ok (.invokevirtual 82, 3) := by decide +kernel
theorem dX4_becomeLost_19 : decode cX4_becomeLost 19 = .ok (.istore_n 3, 1) := by decide +kernel
theorem dX4_becomeLost_20 : decode cX4_becomeLost 20 = .ok (.aload_n 0, 1) := by decide +kernel
theorem dX4_becomeLost_21 : decode cX4_becomeLost 21 = .ok (.getfield 10, 3) := by decide +kernel
theorem dX4_becomeLost_24 : decode cX4_becomeLost 24 = .ok (.getfield 47, 3) := by decide +kernel
theorem dX4_becomeLost_27 : decode cX4_becomeLost 27 = .ok (.iload_n 1, 1) := by decide +kernel
theorem dX4_becomeLost_28 : decode cX4_becomeLost 28 = .ok (.bipush 10, 2) := by decide +kernel
theorem dX4_becomeLost_30 : decode cX4_becomeLost 30 = .ok (.aload_n 0, 1) := by decide +kernel
theorem dX4_becomeLost_31 : decode cX4_becomeLost 31 = .ok (.iload_n 1, 1) := by decide +kernel
theorem dX4_becomeLost_32 : decode cX4_becomeLost 32 = .ok (.invokevirtual 161, 3) := by decide +kernel
theorem dX4_becomeLost_35 : decode cX4_becomeLost 35 = .ok (.invokevirtual 57, 3) := by decide +kernel
theorem dX4_becomeLost_38 : decode cX4_becomeLost 38 = .ok (.aload_n 0, 1) := by decide +kernel
theorem dX4_becomeLost_39 : decode cX4_becomeLost 39 = .ok (.getfield 10, 3) := by decide +kernel
theorem dX4_becomeLost_42 : decode cX4_becomeLost 42 = .ok (.getfield 47, 3) := by decide +kernel
theorem dX4_becomeLost_45 : decode cX4_becomeLost 45 = .ok (.iload_n 1, 1) := by decide +kernel
theorem dX4_becomeLost_46 : decode cX4_becomeLost 46 = .ok (.bipush 11, 2) := by decide +kernel
theorem dX4_becomeLost_48 : decode cX4_becomeLost 48 = .ok (.iload_n 3, 1) := by decide +kernel
theorem dX4_becomeLost_49 : decode cX4_becomeLost 49 = .ok (.invokevirtual 57, 3) := by decide +kernel
theorem dX4_becomeLost_52 : decode cX4_becomeLost 52 = .ok (.aload_n 0, 1) := by decide +kernel
theorem dX4_becomeLost_53 : decode cX4_becomeLost 53 = .ok (.iload_n 1, 1) := by decide +kernel
theorem dX4_becomeLost_54 : decode cX4_becomeLost 54 = .ok (.iconst 5, 1) := by decide +kernel
theorem dX4_becomeLost_55 : decode cX4_becomeLost 55 = .ok (.iload_n 2, 1) := by decide +kernel
theorem dX4_becomeLost_56 : decode cX4_becomeLost 56 = .ok (.bipush (-2), 2) := by decide +kernel
theorem dX4_becomeLost_58 : decode cX4_becomeLost 58 = .ok (.invokevirtual 114, 3) := by decide +kernel
theorem dX4_becomeLost_61 : decode cX4_becomeLost 61 = .ok (.aload_n 0, 1) := by decide +kernel
theorem dX4_becomeLost_62 : decode cX4_becomeLost 62 = .ok (.iconst 1, 1) := by decide +kernel
theorem dX4_becomeLost_63 : decode cX4_becomeLost 63 = .ok (.iload_n 2, 1) := by decide +kernel
theorem dX4_becomeLost_64 : decode cX4_becomeLost 64 = .ok (.iload_n 3, 1) := by decide +kernel
theorem dX4_becomeLost_65 : decode cX4_becomeLost 65 = .ok (.iload_n 1, 1) := by decide +kernel
theorem dX4_becomeLost_66 : decode cX4_becomeLost 66 = .ok (.invokevirtual 164, 3) := by decide +kernel
theorem dX4_becomeLost_69 : decode cX4_becomeLost 69 = .ok (.return_, 1) := by decide +kernel
theorem dX4_wayBetween_0 : decode cX4_wayBetween 0 = .ok (.iload_n 0, 1) := by decide +kernel
theorem dX4_wayBetween_1 : decode cX4_wayBetween 1 = .ok (.iload_n 1, 1) := by decide +kernel
theorem dX4_wayBetween_2 : decode cX4_wayBetween 2 = .ok (.isub, 1) := by decide +kernel
theorem dX4_wayBetween_3 : decode cX4_wayBetween 3 = .ok (.invokestatic 299, 3) := by decide +kernel
theorem dX4_wayBetween_6 : decode cX4_wayBetween 6 = .ok (.ireturn, 1) := by decide +kernel
theorem dX4_nearestOnShelf_0 : decode cX4_nearestOnShelf 0 = .ok (.bipush (-2), 2) := by decide +kernel
theorem dX4_nearestOnShelf_2 : decode cX4_nearestOnShelf 2 = .ok (.istore_n 3, 1) := by decide +kernel
theorem dX4_nearestOnShelf_3 : decode cX4_nearestOnShelf 3 = .ok (.iconst 4, 1) := by decide +kernel
theorem dX4_nearestOnShelf_4 : decode cX4_nearestOnShelf 4 = .ok (.istore 4, 2) := by decide +kernel
theorem dX4_nearestOnShelf_6 : decode cX4_nearestOnShelf 6 = .ok (.iconst 0, 1) := by decide +kernel
theorem dX4_nearestOnShelf_7 : decode cX4_nearestOnShelf 7 = .ok (.istore 5, 2) := by decide +kernel
theorem dX4_nearestOnShelf_9 : decode cX4_nearestOnShelf 9 = .ok (.iload 5, 2) := by decide +kernel
theorem dX4_nearestOnShelf_11 : decode cX4_nearestOnShelf 11 = .ok (.aload_n 0, 1) := by decide +kernel
theorem dX4_nearestOnShelf_12 : decode cX4_nearestOnShelf 12 = .ok (.getfield 10, 3) := by decide +kernel
theorem dX4_nearestOnShelf_15 : decode cX4_nearestOnShelf 15 = .ok (.getfield 47, 3) := by decide +kernel
theorem dX4_nearestOnShelf_18 : decode cX4_nearestOnShelf 18 = .ok (.invokevirtual 92, 3) := by decide +kernel
theorem dX4_nearestOnShelf_21 : decode cX4_nearestOnShelf 21 = .ok (.if_icmp .ge 64, 3) := by decide +kernel
theorem dX4_nearestOnShelf_24 : decode cX4_nearestOnShelf 24 = .ok (.aload_n 0, 1) := by decide +kernel
theorem dX4_nearestOnShelf_25 : decode cX4_nearestOnShelf 25 = .ok (.iload 5, 2) := by decide +kernel
theorem dX4_nearestOnShelf_27 : decode cX4_nearestOnShelf 27 = .ok (.invokevirtual 118, 3) := by decide +kernel
theorem dX4_nearestOnShelf_30 : decode cX4_nearestOnShelf 30 = .ok (.iload_n 1, 1) := by decide +kernel
theorem dX4_nearestOnShelf_31 : decode cX4_nearestOnShelf 31 = .ok (.if_icmp .ne 48, 3) := by decide +kernel
theorem dX4_nearestOnShelf_34 : decode cX4_nearestOnShelf 34 = .ok (.aload_n 0, 1) := by decide +kernel
theorem dX4_nearestOnShelf_35 : decode cX4_nearestOnShelf 35 = .ok (.iload 5, 2) := by decide +kernel
theorem dX4_nearestOnShelf_37 : decode cX4_nearestOnShelf 37 = .ok (.invokevirtual 95, 3) := by decide +kernel
theorem dX4_nearestOnShelf_40 : decode cX4_nearestOnShelf 40 = .ok (.ifCond .eq 6, 3) := by decide +kernel
theorem dX4_nearestOnShelf_43 : decode cX4_nearestOnShelf 43 = .ok (.goto 36, 3) := by decide +kernel
theorem dX4_nearestOnShelf_46 : decode cX4_nearestOnShelf 46 = .ok (.aload_n 0, 1) := by decide +kernel
theorem dX4_nearestOnShelf_47 : decode cX4_nearestOnShelf 47 = .ok (.getfield 10, 3) := by decide +kernel
theorem dX4_nearestOnShelf_50 : decode cX4_nearestOnShelf 50 = .ok (.getfield 47, 3) := by decide +kernel
theorem dX4_nearestOnShelf_53 : decode cX4_nearestOnShelf 53 = .ok (.iload 5, 2) := by decide +kernel
theorem dX4_nearestOnShelf_55 : decode cX4_nearestOnShelf 55 = .ok (.iconst 4, 1) := by decide +kernel
theorem dX4_nearestOnShelf_56 : decode cX4_nearestOnShelf 56 = .ok (.invokevirtual 88, 3) := by decide +kernel
theorem dX4_nearestOnShelf_59 : decode cX4_nearestOnShelf 59 = .ok (.iload_n 2, 1) := by decide +kernel
theorem dX4_nearestOnShelf_60 : decode cX4_nearestOnShelf 60 = .ok (.invokestatic 296, 3) := by decide +kernel
theorem dX4_nearestOnShelf_63 : decode cX4_nearestOnShelf 63 = .ok (.istore 6, 2) := by decide +kernel
theorem dX4_nearestOnShelf_65 : decode cX4_nearestOnShelf 65 = .ok (.iload 6, 2) := by decide +kernel
theorem dX4_nearestOnShelf_67 : decode cX4_nearestOnShelf 67 = .ok (.iload 4, 2) := by decide +kernel
theorem dX4_nearestOnShelf_69 : decode cX4_nearestOnShelf 69 = .ok (.if_icmp .ge 10, 3) := by decide +kernel
theorem dX4_nearestOnShelf_72 : decode cX4_nearestOnShelf 72 = .ok (.iload 5, 2) := by decide +kernel
theorem dX4_nearestOnShelf_74 : decode cX4_nearestOnShelf 74 = .ok (.istore_n 3, 1) := by decide +kernel
theorem dX4_nearestOnShelf_75 : decode cX4_nearestOnShelf 75 = .ok (.iload 6, 2) := by decide +kernel
theorem dX4_nearestOnShelf_77 : decode cX4_nearestOnShelf 77 = .ok (.istore 4, 2) := by decide +kernel
theorem dX4_nearestOnShelf_79 : decode cX4_nearestOnShelf 79 = .ok (.iinc 5 1, 3) := by decide +kernel
theorem dX4_nearestOnShelf_82 : decode cX4_nearestOnShelf 82 = .ok (.goto (-73), 3) := by decide +kernel
theorem dX4_nearestOnShelf_85 : decode cX4_nearestOnShelf 85 = .ok (.iload_n 3, 1) := by decide +kernel
theorem dX4_nearestOnShelf_86 : decode cX4_nearestOnShelf 86 = .ok (.ireturn, 1) := by decide +kernel
theorem dX4_recallFor_0 : decode cX4_recallFor 0 = .ok (.aload_n 0, 1) := by decide +kernel
theorem dX4_recallFor_1 : decode cX4_recallFor 1 = .ok (.iload_n 1, 1) := by decide +kernel
theorem dX4_recallFor_2 : decode cX4_recallFor 2 = .ok (.invokevirtual 302, 3) := by decide +kernel
theorem dX4_recallFor_5 : decode cX4_recallFor 5 = .ok (.istore_n 2, 1) := by decide +kernel
theorem dX4_recallFor_6 : decode cX4_recallFor 6 = .ok (.iload_n 2, 1) := by decide +kernel
theorem dX4_recallFor_7 : decode cX4_recallFor 7 = .ok (.bipush (-2), 2) := by decide +kernel
theorem dX4_recallFor_9 : decode cX4_recallFor 9 = .ok (.if_icmp .ne 4, 3) := by decide +kernel
theorem dX4_recallFor_12 : decode cX4_recallFor 12 = .ok (.return_, 1) := by decide +kernel
theorem dX4_recallFor_13 : decode cX4_recallFor 13 = .ok (.aload_n 0, 1) := by decide +kernel
theorem dX4_recallFor_14 : decode cX4_recallFor 14 = .ok (.getfield 10, 3) := by decide +kernel
theorem dX4_recallFor_17 : decode cX4_recallFor 17 = .ok (.getfield 98, 3) := by decide +kernel
theorem dX4_recallFor_20 : decode cX4_recallFor 20 = .ok (.iconst 3, 1) := by decide +kernel
theorem dX4_recallFor_21 : decode cX4_recallFor 21 = .ok (.iadd, 1) := by decide +kernel
theorem dX4_recallFor_22 : decode cX4_recallFor 22 = .ok (.istore_n 3, 1) := by decide +kernel
theorem dX4_recallFor_23 : decode cX4_recallFor 23 = .ok (.aload_n 0, 1) := by decide +kernel
theorem dX4_recallFor_24 : decode cX4_recallFor 24 = .ok (.getfield 10, 3) := by decide +kernel
theorem dX4_recallFor_27 : decode cX4_recallFor 27 = .ok (.getfield 47, 3) := by decide +kernel
theorem dX4_recallFor_30 : decode cX4_recallFor 30 = .ok (.iload_n 2, 1) := by decide +kernel
theorem dX4_recallFor_31 : decode cX4_recallFor 31 = .ok (.bipush 7, 2) := by decide +kernel
theorem dX4_recallFor_33 : decode cX4_recallFor 33 = .ok (.invokevirtual 88, 3) := by decide +kernel
theorem dX4_recallFor_36 : decode cX4_recallFor 36 = .ok (.bipush 7, 2) := by decide +kernel
theorem dX4_recallFor_38 : decode cX4_recallFor 38 = .ok (.iadd, 1) := by decide +kernel
theorem dX4_recallFor_39 : decode cX4_recallFor 39 = .ok (.istore 4, 2) := by decide +kernel
theorem dX4_recallFor_41 : decode cX4_recallFor 41 = .ok (.aload_n 0, 1) := by decide +kernel
theorem dX4_recallFor_42 : decode cX4_recallFor 42 = .ok (.getfield 10, 3) := by decide +kernel
theorem dX4_recallFor_45 : decode cX4_recallFor 45 = .ok (.getfield 47, 3) := by decide +kernel
theorem dX4_recallFor_48 : decode cX4_recallFor 48 = .ok (.iload_n 2, 1) := by decide +kernel
theorem dX4_recallFor_49 : decode cX4_recallFor 49 = .ok (.bipush 6, 2) := by decide +kernel
theorem dX4_recallFor_51 : decode cX4_recallFor 51 = .ok (.invokevirtual 88, 3) := by decide +kernel
theorem dX4_recallFor_54 : decode cX4_recallFor 54 = .ok (.iload_n 3, 1) := by decide +kernel
theorem dX4_recallFor_55 : decode cX4_recallFor 55 = .ok (.iload 4, 2) := by decide +kernel
theorem dX4_recallFor_57 : decode cX4_recallFor 57 = .ok (.invokestatic 222, 3) := by decide +kernel
theorem dX4_recallFor_60 : decode cX4_recallFor 60 = .ok (.invokestatic 305, 3) := by decide +kernel
theorem dX4_recallFor_63 : decode cX4_recallFor 63 = .ok (.istore 5, 2) := by decide +kernel
theorem dX4_recallFor_65 : decode cX4_recallFor 65 = .ok (.aload_n 0, 1) := by decide +kernel
theorem dX4_recallFor_66 : decode cX4_recallFor 66 = .ok (.getfield 10, 3) := by decide +kernel
theorem dX4_recallFor_69 : decode cX4_recallFor 69 = .ok (.getfield 47, 3) := by decide +kernel
theorem dX4_recallFor_72 : decode cX4_recallFor 72 = .ok (.iload_n 2, 1) := by decide +kernel
theorem dX4_recallFor_73 : decode cX4_recallFor 73 = .ok (.bipush 6, 2) := by decide +kernel
theorem dX4_recallFor_75 : decode cX4_recallFor 75 = .ok (.iload 5, 2) := by decide +kernel
theorem dX4_recallFor_77 : decode cX4_recallFor 77 = .ok (.invokevirtual 57, 3) := by decide +kernel
theorem dX4_recallFor_80 : decode cX4_recallFor 80 = .ok (.aload_n 0, 1) := by decide +kernel
theorem dX4_recallFor_81 : decode cX4_recallFor 81 = .ok (.getfield 10, 3) := by decide +kernel
theorem dX4_recallFor_84 : decode cX4_recallFor 84 = .ok (.getfield 47, 3) := by decide +kernel
theorem dX4_recallFor_87 : decode cX4_recallFor 87 = .ok (.iload_n 2, 1) := by decide +kernel
theorem dX4_recallFor_88 : decode cX4_recallFor 88 = .ok (.bipush 9, 2) := by decide +kernel
theorem dX4_recallFor_90 : decode cX4_recallFor 90 = .ok (.iconst 1, 1) := by decide +kernel
theorem dX4_recallFor_91 : decode cX4_recallFor 91 = .ok (.invokevirtual 57, 3) := by decide +kernel
theorem dX4_recallFor_94 : decode cX4_recallFor 94 = .ok (.return_, 1) := by decide +kernel
theorem dX4_earliestNotRecalled_0 : decode cX4_earliestNotRecalled 0 = .ok (.bipush (-2), 2) := by decide +kernel
theorem dX4_earliestNotRecalled_2 : decode cX4_earliestNotRecalled 2 = .ok (.istore_n 2, 1) := by decide +kernel
theorem dX4_earliestNotRecalled_3 : decode cX4_earliestNotRecalled 3 = .ok (.iconst 0, 1) := by decide +kernel
theorem dX4_earliestNotRecalled_4 : decode cX4_earliestNotRecalled 4 = .ok (.istore_n 3, 1) := by decide +kernel
theorem dX4_earliestNotRecalled_5 : decode cX4_earliestNotRecalled 5 = .ok (.iload_n 3, 1) := by decide +kernel
theorem dX4_earliestNotRecalled_6 : decode cX4_earliestNotRecalled 6 = .ok (.aload_n 0, 1) := by decide +kernel
theorem dX4_earliestNotRecalled_7 : decode cX4_earliestNotRecalled 7 = .ok (.getfield 10, 3) := by decide +kernel
theorem dX4_earliestNotRecalled_10 : decode cX4_earliestNotRecalled 10 = .ok (.getfield 47, 3) := by decide +kernel
theorem dX4_earliestNotRecalled_13 : decode cX4_earliestNotRecalled 13 = .ok (.invokevirtual 92, 3) := by decide +kernel
theorem dX4_earliestNotRecalled_16 : decode cX4_earliestNotRecalled 16 = .ok (.if_icmp .ge 84, 3) := by decide +kernel
theorem dX4_earliestNotRecalled_19 : decode cX4_earliestNotRecalled 19 = .ok (.aload_n 0, 1) := by decide +kernel
theorem dX4_earliestNotRecalled_20 : decode cX4_earliestNotRecalled 20 = .ok (.iload_n 3, 1) := by decide +kernel
theorem dX4_earliestNotRecalled_21 : decode cX4_earliestNotRecalled 21 = .ok (.invokevirtual 118, 3) := by decide +kernel
theorem dX4_earliestNotRecalled_24 : decode cX4_earliestNotRecalled 24 = .ok (.iload_n 1, 1) := by decide +kernel
theorem dX4_earliestNotRecalled_25 : decode cX4_earliestNotRecalled 25 = .ok (.if_icmp .ne 69, 3) := by decide +kernel
theorem dX4_earliestNotRecalled_28 : decode cX4_earliestNotRecalled 28 = .ok (.aload_n 0, 1) := by decide +kernel
theorem dX4_earliestNotRecalled_29 : decode cX4_earliestNotRecalled 29 = .ok (.iload_n 3, 1) := by decide +kernel
theorem dX4_earliestNotRecalled_30 : decode cX4_earliestNotRecalled 30 = .ok (.invokevirtual 95, 3) := by decide +kernel
theorem dX4_earliestNotRecalled_33 : decode cX4_earliestNotRecalled 33 = .ok (.iconst 1, 1) := by decide +kernel
theorem dX4_earliestNotRecalled_34 : decode cX4_earliestNotRecalled 34 = .ok (.if_icmp .ne 60, 3) := by decide +kernel
theorem dX4_earliestNotRecalled_37 : decode cX4_earliestNotRecalled 37 = .ok (.aload_n 0, 1) := by decide +kernel
theorem dX4_earliestNotRecalled_38 : decode cX4_earliestNotRecalled 38 = .ok (.getfield 10, 3) := by decide +kernel
theorem dX4_earliestNotRecalled_41 : decode cX4_earliestNotRecalled 41 = .ok (.getfield 47, 3) := by decide +kernel
theorem dX4_earliestNotRecalled_44 : decode cX4_earliestNotRecalled 44 = .ok (.iload_n 3, 1) := by decide +kernel
theorem dX4_earliestNotRecalled_45 : decode cX4_earliestNotRecalled 45 = .ok (.bipush 9, 2) := by decide +kernel
theorem dX4_earliestNotRecalled_47 : decode cX4_earliestNotRecalled 47 = .ok (.invokevirtual 88, 3) := by decide +kernel
theorem dX4_earliestNotRecalled_50 : decode cX4_earliestNotRecalled 50 = .ok (.iconst 1, 1) := by decide +kernel
theorem dX4_earliestNotRecalled_51 : decode cX4_earliestNotRecalled 51 = .ok (.if_icmp .ne 6, 3) := by decide +kernel
theorem dX4_earliestNotRecalled_54 : decode cX4_earliestNotRecalled 54 = .ok (.goto 40, 3) := by decide +kernel
theorem dX4_earliestNotRecalled_57 : decode cX4_earliestNotRecalled 57 = .ok (.iload_n 2, 1) := by decide +kernel
theorem dX4_earliestNotRecalled_58 : decode cX4_earliestNotRecalled 58 = .ok (.bipush (-2), 2) := by decide +kernel
theorem dX4_earliestNotRecalled_60 : decode cX4_earliestNotRecalled 60 = .ok (.if_icmp .eq 32, 3) := by decide +kernel
theorem dX4_earliestNotRecalled_63 : decode cX4_earliestNotRecalled 63 = .ok (.aload_n 0, 1) := by decide +kernel
theorem dX4_earliestNotRecalled_64 : decode cX4_earliestNotRecalled 64 = .ok (.getfield 10, 3) := by decide +kernel
theorem dX4_earliestNotRecalled_67 : decode cX4_earliestNotRecalled 67 = .ok (.getfield 47, 3) := by decide +kernel
theorem dX4_earliestNotRecalled_70 : decode cX4_earliestNotRecalled 70 = .ok (.iload_n 3, 1) := by decide +kernel
theorem dX4_earliestNotRecalled_71 : decode cX4_earliestNotRecalled 71 = .ok (.bipush 7, 2) := by decide +kernel
theorem dX4_earliestNotRecalled_73 : decode cX4_earliestNotRecalled 73 = .ok (.invokevirtual 88, 3) := by decide +kernel
theorem dX4_earliestNotRecalled_76 : decode cX4_earliestNotRecalled 76 = .ok (.aload_n 0, 1) := by decide +kernel
theorem dX4_earliestNotRecalled_77 : decode cX4_earliestNotRecalled 77 = .ok (.getfield 10, 3) := by decide +kernel
theorem dX4_earliestNotRecalled_80 : decode cX4_earliestNotRecalled 80 = .ok (.getfield 47, 3) := by decide +kernel
theorem dX4_earliestNotRecalled_83 : decode cX4_earliestNotRecalled 83 = .ok (.iload_n 2, 1) := by decide +kernel
theorem dX4_earliestNotRecalled_84 : decode cX4_earliestNotRecalled 84 = .ok (.bipush 7, 2) := by decide +kernel
theorem dX4_earliestNotRecalled_86 : decode cX4_earliestNotRecalled 86 = .ok (.invokevirtual 88, 3) := by decide +kernel
theorem dX4_earliestNotRecalled_89 : decode cX4_earliestNotRecalled 89 = .ok (.if_icmp .ge 5, 3) := by decide +kernel
theorem dX4_earliestNotRecalled_92 : decode cX4_earliestNotRecalled 92 = .ok (.iload_n 3, 1) := by decide +kernel
theorem dX4_earliestNotRecalled_93 : decode cX4_earliestNotRecalled 93 = .ok (.istore_n 2, 1) := by decide +kernel
theorem dX4_earliestNotRecalled_94 : decode cX4_earliestNotRecalled 94 = .ok (.iinc 3 1, 3) := by decide +kernel
theorem dX4_earliestNotRecalled_97 : decode cX4_earliestNotRecalled 97 = .ok (.goto (-92), 3) := by decide +kernel
theorem dX4_earliestNotRecalled_100 : decode cX4_earliestNotRecalled 100 = .ok (.iload_n 2, 1) := by decide +kernel
theorem dX4_earliestNotRecalled_101 : decode cX4_earliestNotRecalled 101 = .ok (.ireturn, 1) := by decide +kernel
theorem dX4_nextByDay_0 : decode cX4_nextByDay 0 = .ok (.iconst 0, 1) := by decide +kernel
theorem dX4_nextByDay_1 : decode cX4_nextByDay 1 = .ok (.istore 4, 2) := by decide +kernel
theorem dX4_nextByDay_3 : decode cX4_nextByDay 3 = .ok (.iload 4, 2) := by decide +kernel
theorem dX4_nextByDay_5 : decode cX4_nextByDay 5 = .ok (.aload_n 0, 1) := by decide +kernel
theorem dX4_nextByDay_6 : decode cX4_nextByDay 6 = .ok (.getfield 10, 3) := by decide +kernel
theorem dX4_nextByDay_9 : decode cX4_nextByDay 9 = .ok (.getfield 47, 3) := by decide +kernel
theorem dX4_nextByDay_12 : decode cX4_nextByDay 12 = .ok (.invokevirtual 92, 3) := by decide +kernel
theorem dX4_nextByDay_15 : decode cX4_nextByDay 15 = .ok (.if_icmp .ge 35, 3) := by decide +kernel
theorem dX4_nextByDay_18 : decode cX4_nextByDay 18 = .ok (.aload_n 0, 1) := by decide +kernel
theorem dX4_nextByDay_19 : decode cX4_nextByDay 19 = .ok (.iload 4, 2) := by decide +kernel
theorem dX4_nextByDay_21 : decode cX4_nextByDay 21 = .ok (.iload_n 1, 1) := by decide +kernel
theorem dX4_nextByDay_22 : decode cX4_nextByDay 22 = .ok (.iload_n 2, 1) := by decide +kernel
theorem dX4_nextByDay_23 : decode cX4_nextByDay 23 = .ok (.invokevirtual 231, 3) := by decide +kernel
theorem dX4_nextByDay_26 : decode cX4_nextByDay 26 = .ok (.ifCond .eq 18, 3) := by decide +kernel
theorem dX4_nextByDay_29 : decode cX4_nextByDay 29 = .ok (.aload_n 0, 1) := by decide +kernel
theorem dX4_nextByDay_30 : decode cX4_nextByDay 30 = .ok (.iload 4, 2) := by decide +kernel
theorem dX4_nextByDay_32 : decode cX4_nextByDay 32 = .ok (.iload_n 1, 1) := by decide +kernel
theorem dX4_nextByDay_33 : decode cX4_nextByDay 33 = .ok (.iload_n 2, 1) := by decide +kernel
theorem dX4_nextByDay_34 : decode cX4_nextByDay 34 = .ok (.invokevirtual 308, 3) := by decide +kernel
theorem dX4_nextByDay_37 : decode cX4_nextByDay 37 = .ok (.iload_n 3, 1) := by decide +kernel
theorem dX4_nextByDay_38 : decode cX4_nextByDay 38 = .ok (.if_icmp .ne 6, 3) := by decide +kernel
theorem dX4_nextByDay_41 : decode cX4_nextByDay 41 = .ok (.iload 4, 2) := by decide +kernel
theorem dX4_nextByDay_43 : decode cX4_nextByDay 43 = .ok (.ireturn, 1) := by decide +kernel
theorem dX4_nextByDay_44 : decode cX4_nextByDay 44 = .ok (.iinc 4 1, 3) := by decide +kernel
theorem dX4_nextByDay_47 : decode cX4_nextByDay 47 = .ok (.goto (-44), 3) := by decide +kernel
theorem dX4_nextByDay_50 : decode cX4_nextByDay 50 = .ok (.bipush (-2), 2) := by decide +kernel
theorem dX4_nextByDay_52 : decode cX4_nextByDay 52 = .ok (.ireturn, 1) := by decide +kernel
theorem dX4_countBefore_0 : decode cX4_countBefore 0 = .ok (.aload_n 0, 1) := by decide +kernel
theorem dX4_countBefore_1 : decode cX4_countBefore 1 = .ok (.getfield 10, 3) := by decide +kernel
theorem dX4_countBefore_4 : decode cX4_countBefore 4 = .ok (.getfield 47, 3) := by decide +kernel
theorem dX4_countBefore_7 : decode cX4_countBefore 7 = .ok (.iload_n 1, 1) := by decide +kernel
theorem dX4_countBefore_8 : decode cX4_countBefore 8 = .ok (.bipush 6, 2) := by decide +kernel
theorem dX4_countBefore_10 : decode cX4_countBefore 10 = .ok (.invokevirtual 88, 3) := by decide +kernel
theorem dX4_countBefore_13 : decode cX4_countBefore 13 = .ok (.istore 4, 2) := by decide +kernel
theorem dX4_countBefore_15 : decode cX4_countBefore 15 = .ok (.iconst 0, 1) := by decide +kernel
theorem dX4_countBefore_16 : decode cX4_countBefore 16 = .ok (.istore 5, 2) := by decide +kernel
theorem dX4_countBefore_18 : decode cX4_countBefore 18 = .ok (.iconst 0, 1) := by decide +kernel
theorem dX4_countBefore_19 : decode cX4_countBefore 19 = .ok (.istore 6, 2) := by decide +kernel
theorem dX4_countBefore_21 : decode cX4_countBefore 21 = .ok (.iload 6, 2) := by decide +kernel
theorem dX4_countBefore_23 : decode cX4_countBefore 23 = .ok (.aload_n 0, 1) := by decide +kernel
theorem dX4_countBefore_24 : decode cX4_countBefore 24 = .ok (.getfield 10, 3) := by decide +kernel
theorem dX4_countBefore_27 : decode cX4_countBefore 27 = .ok (.getfield 47, 3) := by decide +kernel
theorem dX4_countBefore_30 : decode cX4_countBefore 30 = .ok (.invokevirtual 92, 3) := by decide +kernel
theorem dX4_countBefore_33 : decode cX4_countBefore 33 = .ok (.if_icmp .ge 48, 3) := by decide +kernel
theorem dX4_countBefore_36 : decode cX4_countBefore 36 = .ok (.aload_n 0, 1) := by decide +kernel
theorem dX4_countBefore_37 : decode cX4_countBefore 37 = .ok (.iload 6, 2) := by decide +kernel
theorem dX4_countBefore_39 : decode cX4_countBefore 39 = .ok (.iload_n 2, 1) := by decide +kernel
theorem dX4_countBefore_40 : decode cX4_countBefore 40 = .ok (.iload_n 3, 1) := by decide +kernel
theorem dX4_countBefore_41 : decode cX4_countBefore 41 = .ok (.invokevirtual 231, 3) := by decide +kernel
theorem dX4_countBefore_44 : decode cX4_countBefore 44 = .ok (.ifCond .eq 31, 3) := by decide +kernel
theorem dX4_countBefore_47 : decode cX4_countBefore 47 = .ok (.aload_n 0, 1) := by decide +kernel
theorem dX4_countBefore_48 : decode cX4_countBefore 48 = .ok (.getfield 10, 3) := by decide +kernel
theorem dX4_countBefore_51 : decode cX4_countBefore 51 = .ok (.getfield 47, 3) := by decide +kernel
theorem dX4_countBefore_54 : decode cX4_countBefore 54 = .ok (.iload 6, 2) := by decide +kernel
theorem dX4_countBefore_56 : decode cX4_countBefore 56 = .ok (.bipush 6, 2) := by decide +kernel
theorem dX4_countBefore_58 : decode cX4_countBefore 58 = .ok (.invokevirtual 88, 3) := by decide +kernel
theorem dX4_countBefore_61 : decode cX4_countBefore 61 = .ok (.iload 6, 2) := by decide +kernel
theorem dX4_countBefore_63 : decode cX4_countBefore 63 = .ok (.iload 4, 2) := by decide +kernel
theorem dX4_countBefore_65 : decode cX4_countBefore 65 = .ok (.iload_n 1, 1) := by decide +kernel
theorem dX4_countBefore_66 : decode cX4_countBefore 66 = .ok (.invokestatic 227, 3) := by decide +kernel
theorem dX4_countBefore_69 : decode cX4_countBefore 69 = .ok (.ifCond .eq 6, 3) := by decide +kernel
theorem dX4_countBefore_72 : decode cX4_countBefore 72 = .ok (.iinc 5 1, 3) := by decide +kernel
theorem dX4_countBefore_75 : decode cX4_countBefore 75 = .ok (.iinc 6 1, 3) := by decide +kernel
theorem dX4_countBefore_78 : decode cX4_countBefore 78 = .ok (.goto (-57), 3) := by decide +kernel
theorem dX4_countBefore_81 : decode cX4_countBefore 81 = .ok (.iload 5, 2) := by decide +kernel
theorem dX4_countBefore_83 : decode cX4_countBefore 83 = .ok (.ireturn, 1) := by decide +kernel
theorem dX4_isBefore_0 : decode cX4_isBefore 0 = .ok (.iload_n 0, 1) := by decide +kernel
theorem dX4_isBefore_1 : decode cX4_isBefore 1 = .ok (.iload_n 2, 1) := by decide +kernel
theorem dX4_isBefore_2 : decode cX4_isBefore 2 = .ok (.if_icmp .lt 13, 3) := by decide +kernel
theorem dX4_isBefore_5 : decode cX4_isBefore 5 = .ok (.iload_n 0, 1) := by decide +kernel
theorem dX4_isBefore_6 : decode cX4_isBefore 6 = .ok (.iload_n 2, 1) := by decide +kernel
theorem dX4_isBefore_7 : decode cX4_isBefore 7 = .ok (.if_icmp .ne 12, 3) := by decide +kernel
theorem dX4_isBefore_10 : decode cX4_isBefore 10 = .ok (.iload_n 1, 1) := by decide +kernel
theorem dX4_isBefore_11 : decode cX4_isBefore 11 = .ok (.iload_n 3, 1) := by decide +kernel
theorem dX4_isBefore_12 : decode cX4_isBefore 12 = .ok (.if_icmp .ge 7, 3) := by decide +kernel
theorem dX4_isBefore_15 : decode cX4_isBefore 15 = .ok (.iconst 1, 1) := by decide +kernel
theorem dX4_isBefore_16 : decode cX4_isBefore 16 = .ok (.goto 4, 3) := by decide +kernel
theorem dX4_isBefore_19 : decode cX4_isBefore 19 = .ok (.iconst 0, 1) := by decide +kernel
theorem dX4_isBefore_20 : decode cX4_isBefore 20 = .ok (.ireturn, 1) := by decide +kernel
theorem dX4_findHold_0 : decode cX4_findHold 0 = .ok (.iconst 0, 1) := by decide +kernel
theorem dX4_findHold_1 : decode cX4_findHold 1 = .ok (.istore_n 3, 1) := by decide +kernel
theorem dX4_findHold_2 : decode cX4_findHold 2 = .ok (.iload_n 3, 1) := by decide +kernel
theorem dX4_findHold_3 : decode cX4_findHold 3 = .ok (.aload_n 0, 1) := by decide +kernel
theorem dX4_findHold_4 : decode cX4_findHold 4 = .ok (.getfield 10, 3) := by decide +kernel
theorem dX4_findHold_7 : decode cX4_findHold 7 = .ok (.getfield 192, 3) := by decide +kernel
theorem dX4_findHold_10 : decode cX4_findHold 10 = .ok (.invokevirtual 92, 3) := by decide +kernel
theorem dX4_findHold_13 : decode cX4_findHold 13 = .ok (.if_icmp .ge 43, 3) := by decide +kernel
theorem dX4_findHold_16 : decode cX4_findHold 16 = .ok (.aload_n 0, 1) := by decide +kernel
theorem dX4_findHold_17 : decode cX4_findHold 17 = .ok (.getfield 10, 3) := by decide +kernel
theorem dX4_findHold_20 : decode cX4_findHold 20 = .ok (.getfield 192, 3) := by decide +kernel
theorem dX4_findHold_23 : decode cX4_findHold 23 = .ok (.iload_n 3, 1) := by decide +kernel
theorem dX4_findHold_24 : decode cX4_findHold 24 = .ok (.iconst 0, 1) := by decide +kernel
theorem dX4_findHold_25 : decode cX4_findHold 25 = .ok (.invokevirtual 88, 3) := by decide +kernel
theorem dX4_findHold_28 : decode cX4_findHold 28 = .ok (.iload_n 1, 1) := by decide +kernel
theorem dX4_findHold_29 : decode cX4_findHold 29 = .ok (.if_icmp .ne 21, 3) := by decide +kernel
theorem dX4_findHold_32 : decode cX4_findHold 32 = .ok (.aload_n 0, 1) := by decide +kernel
theorem dX4_findHold_33 : decode cX4_findHold 33 = .ok (.getfield 10, 3) := by decide +kernel
theorem dX4_findHold_36 : decode cX4_findHold 36 = .ok (.getfield 192, 3) := by decide +kernel
theorem dX4_findHold_39 : decode cX4_findHold 39 = .ok (.iload_n 3, 1) := by decide +kernel
theorem dX4_findHold_40 : decode cX4_findHold 40 = .ok (.iconst 3, 1) := by decide +kernel
theorem dX4_findHold_41 : decode cX4_findHold 41 = .ok (.invokevirtual 88, 3) := by decide +kernel
theorem dX4_findHold_44 : decode cX4_findHold 44 = .ok (.iload_n 2, 1) := by decide +kernel
theorem dX4_findHold_45 : decode cX4_findHold 45 = .ok (.if_icmp .ne 5, 3) := by decide +kernel
theorem dX4_findHold_48 : decode cX4_findHold 48 = .ok (.iload_n 3, 1) := by decide +kernel
theorem dX4_findHold_49 : decode cX4_findHold 49 = .ok (.ireturn, 1) := by decide +kernel
theorem dX4_findHold_50 : decode cX4_findHold 50 = .ok (.iinc 3 1, 3) := by decide +kernel
theorem dX4_findHold_53 : decode cX4_findHold 53 = .ok (.goto (-51), 3) := by decide +kernel
theorem dX4_findHold_56 : decode cX4_findHold 56 = .ok (.bipush (-2), 2) := by decide +kernel
theorem dX4_findHold_58 : decode cX4_findHold 58 = .ok (.ireturn, 1) := by decide +kernel
theorem dX4_removeHold_0 : decode cX4_removeHold 0 = .ok (.aload_n 0, 1) := by decide +kernel
theorem dX4_removeHold_1 : decode cX4_removeHold 1 = .ok (.getfield 10, 3) := by decide +kernel
theorem dX4_removeHold_4 : decode cX4_removeHold 4 = .ok (.getfield 192, 3) := by decide +kernel
theorem dX4_removeHold_7 : decode cX4_removeHold 7 = .ok (.iload_n 1, 1) := by decide +kernel
theorem dX4_removeHold_8 : decode cX4_removeHold 8 = .ok (.iconst 2, 1) := by decide +kernel
theorem dX4_removeHold_9 : decode cX4_removeHold 9 = .ok (.invokevirtual 88, 3) := by decide +kernel
theorem dX4_removeHold_12 : decode cX4_removeHold 12 = .ok (.istore_n 2, 1) := by decide +kernel
theorem dX4_removeHold_13 : decode cX4_removeHold 13 = .ok (.iload_n 2, 1) := by decide +kernel
theorem dX4_removeHold_14 : decode cX4_removeHold 14 = .ok (.bipush (-2), 2) := by decide +kernel
theorem dX4_removeHold_16 : decode cX4_removeHold 16 = .ok (.if_icmp .eq 17, 3) := by decide +kernel
theorem dX4_removeHold_19 : decode cX4_removeHold 19 = .ok (.aload_n 0, 1) := by decide +kernel
theorem dX4_removeHold_20 : decode cX4_removeHold 20 = .ok (.getfield 10, 3) := by decide +kernel
theorem dX4_removeHold_23 : decode cX4_removeHold 23 = .ok (.getfield 47, 3) := by decide +kernel
theorem dX4_removeHold_26 : decode cX4_removeHold 26 = .ok (.iload_n 2, 1) := by decide +kernel
theorem dX4_removeHold_27 : decode cX4_removeHold 27 = .ok (.iconst 5, 1) := by decide +kernel
theorem dX4_removeHold_28 : decode cX4_removeHold 28 = .ok (.bipush (-2), 2) := by decide +kernel
theorem dX4_removeHold_30 : decode cX4_removeHold 30 = .ok (.invokevirtual 57, 3) := by decide +kernel
theorem dX4_removeHold_33 : decode cX4_removeHold 33 = .ok (.aload_n 0, 1) := by decide +kernel
theorem dX4_removeHold_34 : decode cX4_removeHold 34 = .ok (.getfield 10, 3) := by decide +kernel
theorem dX4_removeHold_37 : decode cX4_removeHold 37 = .ok (.getfield 192, 3) := by decide +kernel
theorem dX4_removeHold_40 : decode cX4_removeHold 40 = .ok (.iload_n 1, 1) := by decide +kernel
theorem dX4_removeHold_41 : decode cX4_removeHold 41 = .ok (.invokevirtual 311, 3) := by decide +kernel
theorem dX4_removeHold_44 : decode cX4_removeHold 44 = .ok (.return_, 1) := by decide +kernel
theorem dX4_isWaiting_0 : decode cX4_isWaiting 0 = .ok (.aload_n 0, 1) := by decide +kernel
theorem dX4_isWaiting_1 : decode cX4_isWaiting 1 = .ok (.getfield 10, 3) := by decide +kernel
theorem dX4_isWaiting_4 : decode cX4_isWaiting 4 = .ok (.getfield 192, 3) := by decide +kernel
theorem dX4_isWaiting_7 : decode cX4_isWaiting 7 = .ok (.iload_n 1, 1) := by decide +kernel
theorem dX4_isWaiting_8 : decode cX4_isWaiting 8 = .ok (.iconst 3, 1) := by decide +kernel
theorem dX4_isWaiting_9 : decode cX4_isWaiting 9 = .ok (.invokevirtual 88, 3) := by decide +kernel
theorem dX4_isWaiting_12 : decode cX4_isWaiting 12 = .ok (.iload_n 2, 1) := by decide +kernel
theorem dX4_isWaiting_13 : decode cX4_isWaiting 13 = .ok (.if_icmp .ne 24, 3) := by decide +kernel
theorem dX4_isWaiting_16 : decode cX4_isWaiting 16 = .ok (.aload_n 0, 1) := by decide +kernel
theorem dX4_isWaiting_17 : decode cX4_isWaiting 17 = .ok (.getfield 10, 3) := by decide +kernel
theorem dX4_isWaiting_20 : decode cX4_isWaiting 20 = .ok (.getfield 192, 3) := by decide +kernel
theorem dX4_isWaiting_23 : decode cX4_isWaiting 23 = .ok (.iload_n 1, 1) := by decide +kernel
theorem dX4_isWaiting_24 : decode cX4_isWaiting 24 = .ok (.iconst 2, 1) := by decide +kernel
theorem dX4_isWaiting_25 : decode cX4_isWaiting 25 = .ok (.invokevirtual 88, 3) := by decide +kernel
theorem dX4_isWaiting_28 : decode cX4_isWaiting 28 = .ok (.bipush (-2), 2) := by decide +kernel
theorem dX4_isWaiting_30 : decode cX4_isWaiting 30 = .ok (.if_icmp .ne 7, 3) := by decide +kernel
theorem dX4_isWaiting_33 : decode cX4_isWaiting 33 = .ok (.iconst 1, 1) := by decide +kernel
theorem dX4_isWaiting_34 : decode cX4_isWaiting 34 = .ok (.goto 4, 3) := by decide +kernel
theorem dX4_isWaiting_37 : decode cX4_isWaiting 37 = .ok (.iconst 0, 1) := by decide +kernel
theorem dX4_isWaiting_38 : decode cX4_isWaiting 38 = .ok (.ireturn, 1) := by decide +kernel
theorem dX4_firstWaiting_0 : decode cX4_firstWaiting 0 = .ok (.iconst 0, 1) := by decide +kernel
theorem dX4_firstWaiting_1 : decode cX4_firstWaiting 1 = .ok (.istore_n 2, 1) := by decide +kernel
theorem dX4_firstWaiting_2 : decode cX4_firstWaiting 2 = .ok (.iload_n 2, 1) := by decide +kernel
theorem dX4_firstWaiting_3 : decode cX4_firstWaiting 3 = .ok (.aload_n 0, 1) := by decide +kernel
theorem dX4_firstWaiting_4 : decode cX4_firstWaiting 4 = .ok (.getfield 10, 3) := by decide +kernel
theorem dX4_firstWaiting_7 : decode cX4_firstWaiting 7 = .ok (.getfield 192, 3) := by decide +kernel
theorem dX4_firstWaiting_10 : decode cX4_firstWaiting 10 = .ok (.invokevirtual 92, 3) := by decide +kernel
theorem dX4_firstWaiting_13 : decode cX4_firstWaiting 13 = .ok (.if_icmp .ge 20, 3) := by decide +kernel
theorem dX4_firstWaiting_16 : decode cX4_firstWaiting 16 = .ok (.aload_n 0, 1) := by decide +kernel
theorem dX4_firstWaiting_17 : decode cX4_firstWaiting 17 = .ok (.iload_n 2, 1) := by decide +kernel
theorem dX4_firstWaiting_18 : decode cX4_firstWaiting 18 = .ok (.iload_n 1, 1) := by decide +kernel
theorem dX4_firstWaiting_19 : decode cX4_firstWaiting 19 = .ok (.invokevirtual 314, 3) := by decide +kernel
theorem dX4_firstWaiting_22 : decode cX4_firstWaiting 22 = .ok (.ifCond .eq 5, 3) := by decide +kernel
theorem dX4_firstWaiting_25 : decode cX4_firstWaiting 25 = .ok (.iload_n 2, 1) := by decide +kernel
theorem dX4_firstWaiting_26 : decode cX4_firstWaiting 26 = .ok (.ireturn, 1) := by decide +kernel
theorem dX4_firstWaiting_27 : decode cX4_firstWaiting 27 = .ok (.iinc 2 1, 3) := by decide +kernel
theorem dX4_firstWaiting_30 : decode cX4_firstWaiting 30 = .ok (.goto (-28), 3) := by decide +kernel
theorem dX4_firstWaiting_33 : decode cX4_firstWaiting 33 = .ok (.bipush (-2), 2) := by decide +kernel
theorem dX4_firstWaiting_35 : decode cX4_firstWaiting 35 = .ok (.ireturn, 1) := by decide +kernel
theorem dX4_waitingBefore_0 : decode cX4_waitingBefore 0 = .ok (.iconst 0, 1) := by decide +kernel
theorem dX4_waitingBefore_1 : decode cX4_waitingBefore 1 = .ok (.istore_n 3, 1) := by decide +kernel
theorem dX4_waitingBefore_2 : decode cX4_waitingBefore 2 = .ok (.iconst 0, 1) := by decide +kernel
theorem dX4_waitingBefore_3 : decode cX4_waitingBefore 3 = .ok (.istore 4, 2) := by decide +kernel
theorem dX4_waitingBefore_5 : decode cX4_waitingBefore 5 = .ok (.iload 4, 2) := by decide +kernel
theorem dX4_waitingBefore_7 : decode cX4_waitingBefore 7 = .ok (.iload_n 1, 1) := by decide +kernel
theorem dX4_waitingBefore_8 : decode cX4_waitingBefore 8 = .ok (.if_icmp .ge 22, 3) := by decide +kernel
theorem dX4_waitingBefore_11 : decode cX4_waitingBefore 11 = .ok (.aload_n 0, 1) := by decide +kernel
theorem dX4_waitingBefore_12 : decode cX4_waitingBefore 12 = .ok (.iload 4, 2) := by decide +kernel
theorem dX4_waitingBefore_14 : decode cX4_waitingBefore 14 = .ok (.iload_n 2, 1) := by decide +kernel
theorem dX4_waitingBefore_15 : decode cX4_waitingBefore 15 = .ok (.invokevirtual 314, 3) := by decide +kernel
theorem dX4_waitingBefore_18 : decode cX4_waitingBefore 18 = .ok (.ifCond .eq 6, 3) := by decide +kernel
theorem dX4_waitingBefore_21 : decode cX4_waitingBefore 21 = .ok (.iinc 3 1, 3) := by decide +kernel
theorem dX4_waitingBefore_24 : decode cX4_waitingBefore 24 = .ok (.iinc 4 1, 3) := by decide +kernel
theorem dX4_waitingBefore_27 : decode cX4_waitingBefore 27 = .ok (.goto (-22), 3) := by decide +kernel
theorem dX4_waitingBefore_30 : decode cX4_waitingBefore 30 = .ok (.iload_n 3, 1) := by decide +kernel
theorem dX4_waitingBefore_31 : decode cX4_waitingBefore 31 = .ok (.ireturn, 1) := by decide +kernel
theorem dX4_holdsBefore_0 : decode cX4_holdsBefore 0 = .ok (.iconst 0, 1) := by decide +kernel
theorem dX4_holdsBefore_1 : decode cX4_holdsBefore 1 = .ok (.istore_n 3, 1) := by decide +kernel
theorem dX4_holdsBefore_2 : decode cX4_holdsBefore 2 = .ok (.iconst 0, 1) := by decide +kernel
theorem dX4_holdsBefore_3 : decode cX4_holdsBefore 3 = .ok (.istore 4, 2) := by decide +kernel
theorem dX4_holdsBefore_5 : decode cX4_holdsBefore 5 = .ok (.iload 4, 2) := by decide +kernel
theorem dX4_holdsBefore_7 : decode cX4_holdsBefore 7 = .ok (.iload_n 1, 1) := by decide +kernel
theorem dX4_holdsBefore_8 : decode cX4_holdsBefore 8 = .ok (.if_icmp .ge 29, 3) := by decide +kernel
theorem dX4_holdsBefore_11 : decode cX4_holdsBefore 11 = .ok (.aload_n 0, 1) := by decide +kernel
theorem dX4_holdsBefore_12 : decode cX4_holdsBefore 12 = .ok (.getfield 10, 3) := by decide +kernel
theorem dX4_holdsBefore_15 : decode cX4_holdsBefore 15 = .ok (.getfield 192, 3) := by decide +kernel
theorem dX4_holdsBefore_18 : decode cX4_holdsBefore 18 = .ok (.iload 4, 2) := by decide +kernel
theorem dX4_holdsBefore_20 : decode cX4_holdsBefore 20 = .ok (.iconst 3, 1) := by decide +kernel
theorem dX4_holdsBefore_21 : decode cX4_holdsBefore 21 = .ok (.invokevirtual 88, 3) := by decide +kernel
theorem dX4_holdsBefore_24 : decode cX4_holdsBefore 24 = .ok (.iload_n 2, 1) := by decide +kernel
theorem dX4_holdsBefore_25 : decode cX4_holdsBefore 25 = .ok (.if_icmp .ne 6, 3) := by decide +kernel
theorem dX4_holdsBefore_28 : decode cX4_holdsBefore 28 = .ok (.iinc 3 1, 3) := by decide +kernel
theorem dX4_holdsBefore_31 : decode cX4_holdsBefore 31 = .ok (.iinc 4 1, 3) := by decide +kernel
theorem dX4_holdsBefore_34 : decode cX4_holdsBefore 34 = .ok (.goto (-29), 3) := by decide +kernel
theorem dX4_holdsBefore_37 : decode cX4_holdsBefore 37 = .ok (.iload_n 3, 1) := by decide +kernel
theorem dX4_holdsBefore_38 : decode cX4_holdsBefore 38 = .ok (.ireturn, 1) := by decide +kernel
theorem dX4_holdsOf_0 : decode cX4_holdsOf 0 = .ok (.iconst 0, 1) := by decide +kernel
theorem dX4_holdsOf_1 : decode cX4_holdsOf 1 = .ok (.istore_n 2, 1) := by decide +kernel
theorem dX4_holdsOf_2 : decode cX4_holdsOf 2 = .ok (.iconst 0, 1) := by decide +kernel
theorem dX4_holdsOf_3 : decode cX4_holdsOf 3 = .ok (.istore_n 3, 1) := by decide +kernel
theorem dX4_holdsOf_4 : decode cX4_holdsOf 4 = .ok (.iload_n 3, 1) := by decide +kernel
theorem dX4_holdsOf_5 : decode cX4_holdsOf 5 = .ok (.aload_n 0, 1) := by decide +kernel
theorem dX4_holdsOf_6 : decode cX4_holdsOf 6 = .ok (.getfield 10, 3) := by decide +kernel
theorem dX4_holdsOf_9 : decode cX4_holdsOf 9 = .ok (.getfield 192, 3) := by decide +kernel
theorem dX4_holdsOf_12 : decode cX4_holdsOf 12 = .ok (.invokevirtual 92, 3) := by decide +kernel
theorem dX4_holdsOf_15 : decode cX4_holdsOf 15 = .ok (.if_icmp .ge 28, 3) := by decide +kernel
theorem dX4_holdsOf_18 : decode cX4_holdsOf 18 = .ok (.aload_n 0, 1) := by decide +kernel
theorem dX4_holdsOf_19 : decode cX4_holdsOf 19 = .ok (.getfield 10, 3) := by decide +kernel
theorem dX4_holdsOf_22 : decode cX4_holdsOf 22 = .ok (.getfield 192, 3) := by decide +kernel
theorem dX4_holdsOf_25 : decode cX4_holdsOf 25 = .ok (.iload_n 3, 1) := by decide +kernel
theorem dX4_holdsOf_26 : decode cX4_holdsOf 26 = .ok (.iconst 0, 1) := by decide +kernel
theorem dX4_holdsOf_27 : decode cX4_holdsOf 27 = .ok (.invokevirtual 88, 3) := by decide +kernel
theorem dX4_holdsOf_30 : decode cX4_holdsOf 30 = .ok (.iload_n 1, 1) := by decide +kernel
theorem dX4_holdsOf_31 : decode cX4_holdsOf 31 = .ok (.if_icmp .ne 6, 3) := by decide +kernel
theorem dX4_holdsOf_34 : decode cX4_holdsOf 34 = .ok (.iinc 2 1, 3) := by decide +kernel
theorem dX4_holdsOf_37 : decode cX4_holdsOf 37 = .ok (.iinc 3 1, 3) := by decide +kernel
theorem dX4_holdsOf_40 : decode cX4_holdsOf 40 = .ok (.goto (-36), 3) := by decide +kernel
theorem dX4_holdsOf_43 : decode cX4_holdsOf 43 = .ok (.iload_n 2, 1) := by decide +kernel
theorem dX4_holdsOf_44 : decode cX4_holdsOf 44 = .ok (.ireturn, 1) := by decide +kernel
theorem dX4_loanCount_0 : decode cX4_loanCount 0 = .ok (.iconst 0, 1) := by decide +kernel
theorem dX4_loanCount_1 : decode cX4_loanCount 1 = .ok (.istore_n 2, 1) := by decide +kernel
theorem dX4_loanCount_2 : decode cX4_loanCount 2 = .ok (.iconst 0, 1) := by decide +kernel
theorem dX4_loanCount_3 : decode cX4_loanCount 3 = .ok (.istore_n 3, 1) := by decide +kernel
theorem dX4_loanCount_4 : decode cX4_loanCount 4 = .ok (.iload_n 3, 1) := by decide +kernel
theorem dX4_loanCount_5 : decode cX4_loanCount 5 = .ok (.aload_n 0, 1) := by decide +kernel
theorem dX4_loanCount_6 : decode cX4_loanCount 6 = .ok (.getfield 10, 3) := by decide +kernel
theorem dX4_loanCount_9 : decode cX4_loanCount 9 = .ok (.getfield 47, 3) := by decide +kernel
theorem dX4_loanCount_12 : decode cX4_loanCount 12 = .ok (.invokevirtual 92, 3) := by decide +kernel
theorem dX4_loanCount_15 : decode cX4_loanCount 15 = .ok (.if_icmp .ge 22, 3) := by decide +kernel
theorem dX4_loanCount_18 : decode cX4_loanCount 18 = .ok (.aload_n 0, 1) := by decide +kernel
theorem dX4_loanCount_19 : decode cX4_loanCount 19 = .ok (.iload_n 3, 1) := by decide +kernel
theorem dX4_loanCount_20 : decode cX4_loanCount 20 = .ok (.iconst 1, 1) := by decide +kernel
theorem dX4_loanCount_21 : decode cX4_loanCount 21 = .ok (.iload_n 1, 1) := by decide +kernel
theorem dX4_loanCount_22 : decode cX4_loanCount 22 = .ok (.invokevirtual 231, 3) := by decide +kernel
theorem dX4_loanCount_25 : decode cX4_loanCount 25 = .ok (.ifCond .eq 6, 3) := by decide +kernel
theorem dX4_loanCount_28 : decode cX4_loanCount 28 = .ok (.iinc 2 1, 3) := by decide +kernel
theorem dX4_loanCount_31 : decode cX4_loanCount 31 = .ok (.iinc 3 1, 3) := by decide +kernel
theorem dX4_loanCount_34 : decode cX4_loanCount 34 = .ok (.goto (-30), 3) := by decide +kernel
theorem dX4_loanCount_37 : decode cX4_loanCount 37 = .ok (.iload_n 2, 1) := by decide +kernel
theorem dX4_loanCount_38 : decode cX4_loanCount 38 = .ok (.ireturn, 1) := by decide +kernel
theorem dX4_overdueCount_0 : decode cX4_overdueCount 0 = .ok (.iconst 0, 1) := by decide +kernel
theorem dX4_overdueCount_1 : decode cX4_overdueCount 1 = .ok (.istore_n 2, 1) := by decide +kernel
theorem dX4_overdueCount_2 : decode cX4_overdueCount 2 = .ok (.iconst 0, 1) := by decide +kernel
theorem dX4_overdueCount_3 : decode cX4_overdueCount 3 = .ok (.istore_n 3, 1) := by decide +kernel
theorem dX4_overdueCount_4 : decode cX4_overdueCount 4 = .ok (.iload_n 3, 1) := by decide +kernel
theorem dX4_overdueCount_5 : decode cX4_overdueCount 5 = .ok (.aload_n 0, 1) := by decide +kernel
theorem dX4_overdueCount_6 : decode cX4_overdueCount 6 = .ok (.getfield 10, 3) := by decide +kernel
theorem dX4_overdueCount_9 : decode cX4_overdueCount 9 = .ok (.getfield 47, 3) := by decide +kernel
theorem dX4_overdueCount_12 : decode cX4_overdueCount 12 = .ok (.invokevirtual 92, 3) := by decide +kernel
theorem dX4_overdueCount_15 : decode cX4_overdueCount 15 = .ok (.if_icmp .ge 45, 3) := by decide +kernel
theorem dX4_overdueCount_18 : decode cX4_overdueCount 18 = .ok (.aload_n 0, 1) := by decide +kernel
theorem dX4_overdueCount_19 : decode cX4_overdueCount 19 = .ok (.iload_n 3, 1) := by decide +kernel
theorem dX4_overdueCount_20 : decode cX4_overdueCount 20 = .ok (.iconst 1, 1) := by decide +kernel
theorem dX4_overdueCount_21 : decode cX4_overdueCount 21 = .ok (.iload_n 1, 1) := by decide +kernel
theorem dX4_overdueCount_22 : decode cX4_overdueCount 22 = .ok (.invokevirtual 231, 3) := by decide +kernel
theorem dX4_overdueCount_25 : decode cX4_overdueCount 25 = .ok (.ifCond .eq 29, 3) := by decide +kernel
theorem dX4_overdueCount_28 : decode cX4_overdueCount 28 = .ok (.aload_n 0, 1) := by decide +kernel
theorem dX4_overdueCount_29 : decode cX4_overdueCount 29 = .ok (.getfield 10, 3) := by decide +kernel
theorem dX4_overdueCount_32 : decode cX4_overdueCount 32 = .ok (.getfield 47, 3) := by decide +kernel
theorem dX4_overdueCount_35 : decode cX4_overdueCount 35 = .ok (.iload_n 3, 1) := by decide +kernel
theorem dX4_overdueCount_36 : decode cX4_overdueCount 36 = .ok (.bipush 6, 2) := by decide +kernel
theorem dX4_overdueCount_38 : decode cX4_overdueCount 38 = .ok (.invokevirtual 88, 3) := by decide +kernel
theorem dX4_overdueCount_41 : decode cX4_overdueCount 41 = .ok (.aload_n 0, 1) := by decide +kernel
theorem dX4_overdueCount_42 : decode cX4_overdueCount 42 = .ok (.getfield 10, 3) := by decide +kernel
theorem dX4_overdueCount_45 : decode cX4_overdueCount 45 = .ok (.getfield 98, 3) := by decide +kernel
theorem dX4_overdueCount_48 : decode cX4_overdueCount 48 = .ok (.if_icmp .ge 6, 3) := by decide +kernel
theorem dX4_overdueCount_51 : decode cX4_overdueCount 51 = .ok (.iinc 2 1, 3) := by decide +kernel
theorem dX4_overdueCount_54 : decode cX4_overdueCount 54 = .ok (.iinc 3 1, 3) := by decide +kernel
theorem dX4_overdueCount_57 : decode cX4_overdueCount 57 = .ok (.goto (-53), 3) := by decide +kernel
theorem dX4_overdueCount_60 : decode cX4_overdueCount 60 = .ok (.iload_n 2, 1) := by decide +kernel
theorem dX4_overdueCount_61 : decode cX4_overdueCount 61 = .ok (.ireturn, 1) := by decide +kernel
theorem dX4_hasLoanOf_0 : decode cX4_hasLoanOf 0 = .ok (.iconst 0, 1) := by decide +kernel
theorem dX4_hasLoanOf_1 : decode cX4_hasLoanOf 1 = .ok (.istore_n 3, 1) := by decide +kernel
theorem dX4_hasLoanOf_2 : decode cX4_hasLoanOf 2 = .ok (.iload_n 3, 1) := by decide +kernel
theorem dX4_hasLoanOf_3 : decode cX4_hasLoanOf 3 = .ok (.aload_n 0, 1) := by decide +kernel
theorem dX4_hasLoanOf_4 : decode cX4_hasLoanOf 4 = .ok (.getfield 10, 3) := by decide +kernel
theorem dX4_hasLoanOf_7 : decode cX4_hasLoanOf 7 = .ok (.getfield 47, 3) := by decide +kernel
theorem dX4_hasLoanOf_10 : decode cX4_hasLoanOf 10 = .ok (.invokevirtual 92, 3) := by decide +kernel
theorem dX4_hasLoanOf_13 : decode cX4_hasLoanOf 13 = .ok (.if_icmp .ge 30, 3) := by decide +kernel
theorem dX4_hasLoanOf_16 : decode cX4_hasLoanOf 16 = .ok (.aload_n 0, 1) := by decide +kernel
theorem dX4_hasLoanOf_17 : decode cX4_hasLoanOf 17 = .ok (.iload_n 3, 1) := by decide +kernel
theorem dX4_hasLoanOf_18 : decode cX4_hasLoanOf 18 = .ok (.iconst 1, 1) := by decide +kernel
theorem dX4_hasLoanOf_19 : decode cX4_hasLoanOf 19 = .ok (.iload_n 1, 1) := by decide +kernel
theorem dX4_hasLoanOf_20 : decode cX4_hasLoanOf 20 = .ok (.invokevirtual 231, 3) := by decide +kernel
theorem dX4_hasLoanOf_23 : decode cX4_hasLoanOf 23 = .ok (.ifCond .eq 14, 3) := by decide +kernel
theorem dX4_hasLoanOf_26 : decode cX4_hasLoanOf 26 = .ok (.aload_n 0, 1) := by decide +kernel
theorem dX4_hasLoanOf_27 : decode cX4_hasLoanOf 27 = .ok (.iload_n 3, 1) := by decide +kernel
theorem dX4_hasLoanOf_28 : decode cX4_hasLoanOf 28 = .ok (.invokevirtual 118, 3) := by decide +kernel
theorem dX4_hasLoanOf_31 : decode cX4_hasLoanOf 31 = .ok (.iload_n 2, 1) := by decide +kernel
theorem dX4_hasLoanOf_32 : decode cX4_hasLoanOf 32 = .ok (.if_icmp .ne 5, 3) := by decide +kernel
theorem dX4_hasLoanOf_35 : decode cX4_hasLoanOf 35 = .ok (.iconst 1, 1) := by decide +kernel
theorem dX4_hasLoanOf_36 : decode cX4_hasLoanOf 36 = .ok (.ireturn, 1) := by decide +kernel
theorem dX4_hasLoanOf_37 : decode cX4_hasLoanOf 37 = .ok (.iinc 3 1, 3) := by decide +kernel
theorem dX4_hasLoanOf_40 : decode cX4_hasLoanOf 40 = .ok (.goto (-38), 3) := by decide +kernel
theorem dX4_hasLoanOf_43 : decode cX4_hasLoanOf 43 = .ok (.iconst 0, 1) := by decide +kernel
theorem dX4_hasLoanOf_44 : decode cX4_hasLoanOf 44 = .ok (.ireturn, 1) := by decide +kernel
theorem dX4_owesTheLimit_0 : decode cX4_owesTheLimit 0 = .ok (.aload_n 0, 1) := by decide +kernel
theorem dX4_owesTheLimit_1 : decode cX4_owesTheLimit 1 = .ok (.getfield 10, 3) := by decide +kernel
theorem dX4_owesTheLimit_4 : decode cX4_owesTheLimit 4 = .ok (.getfield 69, 3) := by decide +kernel
theorem dX4_owesTheLimit_7 : decode cX4_owesTheLimit 7 = .ok (.iload_n 1, 1) := by decide +kernel
theorem dX4_owesTheLimit_8 : decode cX4_owesTheLimit 8 = .ok (.iconst 0, 1) := by decide +kernel
theorem dX4_owesTheLimit_9 : decode cX4_owesTheLimit 9 = .ok (.invokevirtual 88, 3) := by decide +kernel
theorem dX4_owesTheLimit_12 : decode cX4_owesTheLimit 12 = .ok (.aload_n 0, 1) := by decide +kernel
theorem dX4_owesTheLimit_13 : decode cX4_owesTheLimit 13 = .ok (.iconst 4, 1) := by decide +kernel
theorem dX4_owesTheLimit_14 : decode cX4_owesTheLimit 14 = .ok (.invokevirtual 82, 3) := by decide +kernel
theorem dX4_owesTheLimit_17 : decode cX4_owesTheLimit 17 = .ok (.if_icmp .lt 7, 3) := by decide +kernel
theorem dX4_owesTheLimit_20 : decode cX4_owesTheLimit 20 = .ok (.iconst 1, 1) := by decide +kernel
theorem dX4_owesTheLimit_21 : decode cX4_owesTheLimit 21 = .ok (.goto 4, 3) := by decide +kernel
theorem dX4_owesTheLimit_24 : decode cX4_owesTheLimit 24 = .ok (.iconst 0, 1) := by decide +kernel
theorem dX4_owesTheLimit_25 : decode cX4_owesTheLimit 25 = .ok (.ireturn, 1) := by decide +kernel
theorem dX4_fineOf_0 : decode cX4_fineOf 0 = .ok (.aload_n 0, 1) := by decide +kernel
theorem dX4_fineOf_1 : decode cX4_fineOf 1 = .ok (.iload_n 1, 1) := by decide +kernel
theorem dX4_fineOf_2 : decode cX4_fineOf 2 = .ok (.invokevirtual 95, 3) := by decide +kernel
theorem dX4_fineOf_5 : decode cX4_fineOf 5 = .ok (.iconst 1, 1) := by decide +kernel
theorem dX4_fineOf_6 : decode cX4_fineOf 6 = .ok (.if_icmp .eq 17, 3) := by decide +kernel
theorem dX4_fineOf_9 : decode cX4_fineOf 9 = .ok (.aload_n 0, 1) := by decide +kernel
theorem dX4_fineOf_10 : decode cX4_fineOf 10 = .ok (.getfield 10, 3) := by decide +kernel
theorem dX4_fineOf_13 : decode cX4_fineOf 13 = .ok (.getfield 47, 3) := by decide +kernel
theorem dX4_fineOf_16 : decode cX4_fineOf 16 = .ok (.iload_n 1, 1) := by decide +kernel
theorem dX4_fineOf_17 : decode cX4_fineOf 17 = .ok (.bipush 10, 2) := by decide +kernel
theorem dX4_fineOf_19 : decode cX4_fineOf 19 = .ok (.invokevirtual 88, 3) := by decide +kernel
theorem dX4_fineOf_22 : decode cX4_fineOf 22 = .ok (.ireturn, 1) := by decide +kernel
theorem dX4_fineOf_23 : decode cX4_fineOf 23 = .ok (.aload_n 0, 1) := by decide +kernel
theorem dX4_fineOf_24 : decode cX4_fineOf 24 = .ok (.getfield 10, 3) := by decide +kernel
theorem dX4_fineOf_27 : decode cX4_fineOf 27 = .ok (.getfield 98, 3) := by decide +kernel
theorem dX4_fineOf_30 : decode cX4_fineOf 30 = .ok (.i2l, 1) := by decide +kernel
theorem dX4_fineOf_31 : decode cX4_fineOf 31 = .ok (.aload_n 0, 1) := by decide +kernel
theorem dX4_fineOf_32 : decode cX4_fineOf 32 = .ok (.getfield 10, 3) := by decide +kernel
theorem dX4_fineOf_35 : decode cX4_fineOf 35 = .ok (.getfield 47, 3) := by decide +kernel
theorem dX4_fineOf_38 : decode cX4_fineOf 38 = .ok (.iload_n 1, 1) := by decide +kernel
theorem dX4_fineOf_39 : decode cX4_fineOf 39 = .ok (.bipush 6, 2) := by decide +kernel
theorem dX4_fineOf_41 : decode cX4_fineOf 41 = .ok (.invokevirtual 88, 3) := by decide +kernel
theorem dX4_fineOf_44 : decode cX4_fineOf 44 = .ok (.i2l, 1) := by decide +kernel
theorem dX4_fineOf_45 : decode cX4_fineOf 45 = .ok (.lsub, 1) := by decide +kernel
theorem dX4_fineOf_46 : decode cX4_fineOf 46 = .ok (.lstore_n 2, 1) := by decide +kernel
theorem dX4_fineOf_47 : decode cX4_fineOf 47 = .ok (.lload_n 2, 1) := by decide +kernel
theorem dX4_fineOf_48 : decode cX4_fineOf 48 = .ok (.lconst 0, 1) := by decide +kernel
theorem dX4_fineOf_49 : decode cX4_fineOf 49 = .ok (.lcmp, 1) := by decide +kernel
theorem dX4_fineOf_50 : decode cX4_fineOf 50 = .ok (.ifCond .gt 5, 3) := by decide +kernel
theorem dX4_fineOf_53 : decode cX4_fineOf 53 = .ok (.iconst 0, 1) := by decide +kernel
theorem dX4_fineOf_54 : decode cX4_fineOf 54 = .ok (.ireturn, 1) := by decide +kernel
theorem dX4_fineOf_55 : decode cX4_fineOf 55 = .ok (.aload_n 0, 1) := by decide +kernel
theorem dX4_fineOf_56 : decode cX4_fineOf 56 = .ok (.iconst 3, 1) := by decide +kernel
theorem dX4_fineOf_57 : decode cX4_fineOf 57 = .ok (.invokevirtual 82, 3) := by decide +kernel
theorem dX4_fineOf_60 : decode cX4_fineOf 60 = .ok (.i2l, 1) := by decide +kernel
theorem dX4_fineOf_61 : decode cX4_fineOf 61 = .ok (.lload_n 2, 1) := by decide +kernel
theorem dX4_fineOf_62 : decode cX4_fineOf 62 = .ok (.aload_n 0, 1) := by decide +kernel
theorem dX4_fineOf_63 : decode cX4_fineOf 63 = .ok (.iconst 2, 1) := by decide +kernel
theorem dX4_fineOf_64 : decode cX4_fineOf 64 = .ok (.invokevirtual 82, 3) := by decide +kernel
theorem dX4_fineOf_67 : decode cX4_fineOf 67 = .ok (.i2l, 1) := by decide +kernel
theorem dX4_fineOf_68 : decode cX4_fineOf 68 = .ok (.lmul, 1) := by decide +kernel
theorem dX4_fineOf_69 : decode cX4_fineOf 69 = .ok (.invokestatic 317, 3) := by decide +kernel
theorem dX4_fineOf_72 : decode cX4_fineOf 72 = .ok (.l2i, 1) := by decide +kernel
theorem dX4_fineOf_73 : decode cX4_fineOf 73 = .ok (.ireturn, 1) := by decide +kernel
theorem dX4_enter_0 : decode cX4_enter 0 = .ok (.iload_n 3, 1) := by decide +kernel
theorem dX4_enter_1 : decode cX4_enter 1 = .ok (.ifCond .ne 4, 3) := by decide +kernel
theorem dX4_enter_4 : decode cX4_enter 4 = .ok (.return_, 1) := by decide +kernel
theorem dX4_enter_5 : decode cX4_enter 5 = .ok (.iload_n 3, 1) := by decide +kernel
theorem dX4_enter_6 : decode cX4_enter 6 = .ok (.ifCond .le 7, 3) := by decide +kernel
theorem dX4_enter_9 : decode cX4_enter 9 = .ok (.iconst 2, 1) := by decide +kernel
theorem dX4_enter_10 : decode cX4_enter 10 = .ok (.goto 4, 3) := by decide +kernel
theorem dX4_enter_13 : decode cX4_enter 13 = .ok (.iconst 3, 1) := by decide +kernel
theorem dX4_enter_14 : decode cX4_enter 14 = .ok (.istore 5, 2) := by decide +kernel
theorem dX4_enter_16 : decode cX4_enter 16 = .ok (.aload_n 0, 1) := by decide +kernel
theorem dX4_enter_17 : decode cX4_enter 17 = .ok (.getfield 10, 3) := by decide +kernel
theorem dX4_enter_20 : decode cX4_enter 20 = .ok (.getfield 69, 3) := by decide +kernel
theorem dX4_enter_23 : decode cX4_enter 23 = .ok (.iload_n 2, 1) := by decide +kernel
theorem dX4_enter_24 : decode cX4_enter 24 = .ok (.iconst 0, 1) := by decide +kernel
theorem dX4_enter_25 : decode cX4_enter 25 = .ok (.aload_n 0, 1) := by decide +kernel
theorem dX4_enter_26 : decode cX4_enter 26 = .ok (.getfield 10, 3) := by decide +kernel
theorem dX4_enter_29 : decode cX4_enter 29 = .ok (.getfield 69, 3) := by decide +kernel
theorem dX4_enter_32 : decode cX4_enter 32 = .ok (.iload_n 2, 1) := by decide +kernel
theorem dX4_enter_33 : decode cX4_enter 33 = .ok (.iconst 0, 1) := by decide +kernel
theorem dX4_enter_34 : decode cX4_enter 34 = .ok (.invokevirtual 88, 3) := by decide +kernel
theorem dX4_enter_37 : decode cX4_enter 37 = .ok (.iload_n 3, 1) := by decide +kernel
theorem dX4_enter_38 : decode cX4_enter 38 = .ok (.iadd, 1) := by decide +kernel
theorem dX4_enter_39 : decode cX4_enter 39 = .ok (.invokevirtual 57, 3) := by decide +kernel
theorem dX4_enter_42 : decode cX4_enter 42 = .ok (.aload_n 0, 1) := by decide +kernel
theorem dX4_enter_43 : decode cX4_enter 43 = .ok (.getfield 10, 3) := by decide +kernel
theorem dX4_enter_46 : decode cX4_enter 46 = .ok (.getfield 69, 3) := by decide +kernel
theorem dX4_enter_49 : decode cX4_enter 49 = .ok (.iload_n 2, 1) := by decide +kernel
theorem dX4_enter_50 : decode cX4_enter 50 = .ok (.iload 5, 2) := by decide +kernel
theorem dX4_enter_52 : decode cX4_enter 52 = .ok (.aload_n 0, 1) := by decide +kernel
theorem dX4_enter_53 : decode cX4_enter 53 = .ok (.getfield 10, 3) := by decide +kernel
theorem dX4_enter_56 : decode cX4_enter 56 = .ok (.getfield 69, 3) := by decide +kernel
theorem dX4_enter_59 : decode cX4_enter 59 = .ok (.iload_n 2, 1) := by decide +kernel
theorem dX4_enter_60 : decode cX4_enter 60 = .ok (.iload 5, 2) := by decide +kernel
theorem dX4_enter_62 : decode cX4_enter 62 = .ok (.invokevirtual 88, 3) := by decide +kernel
theorem dX4_enter_65 : decode cX4_enter 65 = .ok (.iload_n 3, 1) := by decide +kernel
theorem dX4_enter_66 : decode cX4_enter 66 = .ok (.invokestatic 299, 3) := by decide +kernel
theorem dX4_enter_69 : decode cX4_enter 69 = .ok (.iadd, 1) := by decide +kernel
theorem dX4_enter_70 : decode cX4_enter 70 = .ok (.invokevirtual 57, 3) := by decide +kernel
theorem dX4_enter_73 : decode cX4_enter 73 = .ok (.aload_n 0, 1) := by decide +kernel
theorem dX4_enter_74 : decode cX4_enter 74 = .ok (.getfield 10, 3) := by decide +kernel
theorem dX4_enter_77 : decode cX4_enter 77 = .ok (.getfield 244, 3) := by decide +kernel
theorem dX4_enter_80 : decode cX4_enter 80 = .ok (.invokevirtual 92, 3) := by decide +kernel
theorem dX4_enter_83 : decode cX4_enter 83 = .ok (.bipush 60, 2) := by decide +kernel
theorem dX4_enter_85 : decode cX4_enter 85 = .ok (.if_icmp .ne 14, 3) := by decide +kernel
theorem dX4_enter_88 : decode cX4_enter 88 = .ok (.aload_n 0, 1) := by decide +kernel
theorem dX4_enter_89 : decode cX4_enter 89 = .ok (.getfield 10, 3) := by decide +kernel
theorem dX4_enter_92 : decode cX4_enter 92 = .ok (.getfield 244, 3) := by decide +kernel
theorem dX4_enter_95 : decode cX4_enter 95 = .ok (.iconst 0, 1) := by decide +kernel
theorem dX4_enter_96 : decode cX4_enter 96 = .ok (.invokevirtual 311, 3) := by decide +kernel
theorem dX4_enter_99 : decode cX4_enter 99 = .ok (.aload_n 0, 1) := by decide +kernel
theorem dX4_enter_100 : decode cX4_enter 100 = .ok (.getfield 10, 3) := by decide +kernel
theorem dX4_enter_103 : decode cX4_enter 103 = .ok (.getfield 244, 3) := by decide +kernel
theorem dX4_enter_106 : decode cX4_enter 106 = .ok (.invokevirtual 51, 3) := by decide +kernel
theorem dX4_enter_109 : decode cX4_enter 109 = .ok (.istore 6, 2) := by decide +kernel
theorem dX4_enter_111 : decode cX4_enter 111 = .ok (.aload_n 0, 1) := by decide +kernel
theorem dX4_enter_112 : decode cX4_enter 112 = .ok (.getfield 10, 3) := by decide +kernel
theorem dX4_enter_115 : decode cX4_enter 115 = .ok (.getfield 244, 3) := by decide +kernel
theorem dX4_enter_118 : decode cX4_enter 118 = .ok (.iload 6, 2) := by decide +kernel
theorem dX4_enter_120 : decode cX4_enter 120 = .ok (.iconst 0, 1) := by decide +kernel
theorem dX4_enter_121 : decode cX4_enter 121 = .ok (.iload_n 1, 1) := by decide +kernel
theorem dX4_enter_122 : decode cX4_enter 122 = .ok (.invokevirtual 57, 3) := by decide +kernel
theorem dX4_enter_125 : decode cX4_enter 125 = .ok (.aload_n 0, 1) := by decide +kernel
theorem dX4_enter_126 : decode cX4_enter 126 = .ok (.getfield 10, 3) := by decide +kernel
theorem dX4_enter_129 : decode cX4_enter 129 = .ok (.getfield 244, 3) := by decide +kernel
theorem dX4_enter_132 : decode cX4_enter 132 = .ok (.iload 6, 2) := by decide +kernel
theorem dX4_enter_134 : decode cX4_enter 134 = .ok (.iconst 1, 1) := by decide +kernel
theorem dX4_enter_135 : decode cX4_enter 135 = .ok (.iload_n 2, 1) := by decide +kernel
theorem dX4_enter_136 : decode cX4_enter 136 = .ok (.invokevirtual 57, 3) := by decide +kernel
theorem dX4_enter_139 : decode cX4_enter 139 = .ok (.aload_n 0, 1) := by decide +kernel
theorem dX4_enter_140 : decode cX4_enter 140 = .ok (.getfield 10, 3) := by decide +kernel
theorem dX4_enter_143 : decode cX4_enter 143 = .ok (.getfield 244, 3) := by decide +kernel
theorem dX4_enter_146 : decode cX4_enter 146 = .ok (.iload 6, 2) := by decide +kernel
theorem dX4_enter_148 : decode cX4_enter 148 = .ok (.iconst 2, 1) := by decide +kernel
theorem dX4_enter_149 : decode cX4_enter 149 = .ok (.iload_n 3, 1) := by decide +kernel
theorem dX4_enter_150 : decode cX4_enter 150 = .ok (.invokevirtual 57, 3) := by decide +kernel
theorem dX4_enter_153 : decode cX4_enter 153 = .ok (.aload_n 0, 1) := by decide +kernel
theorem dX4_enter_154 : decode cX4_enter 154 = .ok (.getfield 10, 3) := by decide +kernel
theorem dX4_enter_157 : decode cX4_enter 157 = .ok (.getfield 244, 3) := by decide +kernel
theorem dX4_enter_160 : decode cX4_enter 160 = .ok (.iload 6, 2) := by decide +kernel
theorem dX4_enter_162 : decode cX4_enter 162 = .ok (.iconst 3, 1) := by decide +kernel
theorem dX4_enter_163 : decode cX4_enter 163 = .ok (.iload 4, 2) := by decide +kernel
theorem dX4_enter_165 : decode cX4_enter 165 = .ok (.invokevirtual 57, 3) := by decide +kernel
theorem dX4_enter_168 : decode cX4_enter 168 = .ok (.aload_n 0, 1) := by decide +kernel
theorem dX4_enter_169 : decode cX4_enter 169 = .ok (.getfield 10, 3) := by decide +kernel
theorem dX4_enter_172 : decode cX4_enter 172 = .ok (.getfield 244, 3) := by decide +kernel
theorem dX4_enter_175 : decode cX4_enter 175 = .ok (.iload 6, 2) := by decide +kernel
theorem dX4_enter_177 : decode cX4_enter 177 = .ok (.iconst 4, 1) := by decide +kernel
theorem dX4_enter_178 : decode cX4_enter 178 = .ok (.aload_n 0, 1) := by decide +kernel
theorem dX4_enter_179 : decode cX4_enter 179 = .ok (.getfield 10, 3) := by decide +kernel
theorem dX4_enter_182 : decode cX4_enter 182 = .ok (.getfield 98, 3) := by decide +kernel
theorem dX4_enter_185 : decode cX4_enter 185 = .ok (.invokevirtual 57, 3) := by decide +kernel
theorem dX4_enter_188 : decode cX4_enter 188 = .ok (.return_, 1) := by decide +kernel
