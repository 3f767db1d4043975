theorem dX5_init_0 : decode cX5_init 0 = .ok (.aload_n 0, 1) := by decide +kernel
theorem dX5_init_1 : decode cX5_init 1 = .ok (.invokespecial 3, 3) := by decide +kernel
theorem dX5_init_4 : decode cX5_init 4 = .ok (.aload_n 0, 1) := by decide +kernel
theorem dX5_init_5 : decode cX5_init 5 = .ok (.new 9, 3) := by decide +kernel
theorem dX5_init_8 : decode cX5_init 8 = .ok (.dup, 1) := by decide +kernel
theorem dX5_init_9 : decode cX5_init 9 = .ok (.bipush 55, 2) := by decide +kernel
theorem dX5_init_11 : decode cX5_init 11 = .ok (.invokespecial 13, 3) := by decide +kernel
theorem dX5_init_14 : decode cX5_init 14 = .ok (.putfield 16, 3) := by decide +kernel
theorem dX5_init_17 : decode cX5_init 17 = .ok (.aload_n 0, 1) := by decide +kernel
theorem dX5_init_18 : decode cX5_init 18 = .ok (.new 9, 3) := by decide +kernel
theorem dX5_init_21 : decode cX5_init 21 = .ok (.dup, 1) := by decide +kernel
theorem dX5_init_22 : decode cX5_init 22 = .ok (.bipush 40, 2) := by decide +kernel
theorem dX5_init_24 : decode cX5_init 24 = .ok (.invokespecial 13, 3) := by decide +kernel
theorem dX5_init_27 : decode cX5_init 27 = .ok (.putfield 20, 3) := by decide +kernel
theorem dX5_init_30 : decode cX5_init 30 = .ok (.aload_n 0, 1) := by decide +kernel
theorem dX5_init_31 : decode cX5_init 31 = .ok (.new 23, 3) := by decide +kernel
theorem dX5_init_34 : decode cX5_init 34 = .ok (.dup, 1) := by decide +kernel
theorem dX5_init_35 : decode cX5_init 35 = .ok (.invokespecial 25, 3) := by decide +kernel
theorem dX5_init_38 : decode cX5_init 38 = .ok (.putfield 26, 3) := by decide +kernel
theorem dX5_init_41 : decode cX5_init 41 = .ok (.aload_n 0, 1) := by decide +kernel
theorem dX5_init_42 : decode cX5_init 42 = .ok (.new 30, 3) := by decide +kernel
theorem dX5_init_45 : decode cX5_init 45 = .ok (.dup, 1) := by decide +kernel
theorem dX5_init_46 : decode cX5_init 46 = .ok (.invokespecial 32, 3) := by decide +kernel
theorem dX5_init_49 : decode cX5_init 49 = .ok (.putfield 33, 3) := by decide +kernel
theorem dX5_init_52 : decode cX5_init 52 = .ok (.aload_n 0, 1) := by decide +kernel
theorem dX5_init_53 : decode cX5_init 53 = .ok (.new 30, 3) := by decide +kernel
theorem dX5_init_56 : decode cX5_init 56 = .ok (.dup, 1) := by decide +kernel
theorem dX5_init_57 : decode cX5_init 57 = .ok (.invokespecial 32, 3) := by decide +kernel
theorem dX5_init_60 : decode cX5_init 60 = .ok (.putfield 37, 3) := by decide +kernel
theorem dX5_init_63 : decode cX5_init 63 = .ok (.aload_n 0, 1) := by decide +kernel
theorem dX5_init_64 : decode cX5_init 64 = .ok (.bipush 64, 2) := by decide +kernel
theorem dX5_init_66 : decode cX5_init 66 = .ok (.newarray .int, 2) := by decide +kernel
theorem dX5_init_68 : decode cX5_init 68 = .ok (.putfield 40, 3) := by decide +kernel
theorem dX5_init_71 : decode cX5_init 71 = .ok (.aload_n 0, 1) := by decide +kernel
theorem dX5_init_72 : decode cX5_init 72 = .ok (.bipush 40, 2) := by decide +kernel
theorem dX5_init_74 : decode cX5_init 74 = .ok (.newarray .int, 2) := by decide +kernel
theorem dX5_init_76 : decode cX5_init 76 = .ok (.putfield 44, 3) := by decide +kernel
theorem dX5_init_79 : decode cX5_init 79 = .ok (.aload_n 0, 1) := by decide +kernel
theorem dX5_init_80 : decode cX5_init 80 = .ok (.sipush 200, 3) := by decide +kernel
theorem dX5_init_83 : decode cX5_init 83 = .ok (.newarray .int, 2) := by decide +kernel
theorem dX5_init_85 : decode cX5_init 85 = .ok (.putfield 47, 3) := by decide +kernel
theorem dX5_init_88 : decode cX5_init 88 = .ok (.aload_n 0, 1) := by decide +kernel
theorem dX5_init_89 : decode cX5_init 89 = .ok (.bipush 8, 2) := by decide +kernel
theorem dX5_init_91 : decode cX5_init 91 = .ok (.newarray .int, 2) := by decide +kernel
theorem dX5_init_93 : decode cX5_init 93 = .ok (.putfield 50, 3) := by decide +kernel
theorem dX5_init_96 : decode cX5_init 96 = .ok (.aload_n 0, 1) := by decide +kernel
theorem dX5_init_97 : decode cX5_init 97 = .ok (.bipush 8, 2) := by decide +kernel
theorem dX5_init_99 : decode cX5_init 99 = .ok (.newarray .int, 2) := by decide +kernel
theorem dX5_init_101 : decode cX5_init 101 = .ok (.putfield 53, 3) := by decide +kernel
theorem dX5_init_104 : decode cX5_init 104 = .ok (.aload_n 0, 1) := by decide +kernel
theorem dX5_init_105 : decode cX5_init 105 = .ok (.bipush 8, 2) := by decide +kernel
theorem dX5_init_107 : decode cX5_init 107 = .ok (.newarray .int, 2) := by decide +kernel
theorem dX5_init_109 : decode cX5_init 109 = .ok (.putfield 56, 3) := by decide +kernel
theorem dX5_init_112 : decode cX5_init 112 = .ok (.aload_n 0, 1) := by decide +kernel
theorem dX5_init_113 : decode cX5_init 113 = .ok (.new 59, 3) := by decide +kernel
theorem dX5_init_116 : decode cX5_init 116 = .ok (.dup, 1) := by decide +kernel
theorem dX5_init_117 : decode cX5_init 117 = .ok (.invokespecial 61, 3) := by decide +kernel
theorem dX5_init_120 : decode cX5_init 120 = .ok (.putfield 62, 3) := by decide +kernel
theorem dX5_init_123 : decode cX5_init 123 = .ok (.return_, 1) := by decide +kernel
theorem dX5_type_0 : decode cX5_type 0 = .ok (.iload_n 1, 1) := by decide +kernel
theorem dX5_type_1 : decode cX5_type 1 = .ok (.iconst 0, 1) := by decide +kernel
theorem dX5_type_2 : decode cX5_type 2 = .ok (.iconst 1, 1) := by decide +kernel
theorem dX5_type_3 : decode cX5_type 3 = .ok (.invokestatic 66, 3) := by decide +kernel
theorem dX5_type_6 : decode cX5_type 6 = .ok (.ifCond .eq 14, 3) := by decide +kernel
theorem dX5_type_9 : decode cX5_type 9 = .ok (.iload_n 2, 1) := by decide +kernel
theorem dX5_type_10 : decode cX5_type 10 = .ok (.iconst 0, 1) := by decide +kernel
theorem dX5_type_11 : decode cX5_type 11 = .ok (.sipush 255, 3) := by decide +kernel
theorem dX5_type_14 : decode cX5_type 14 = .ok (.invokestatic 66, 3) := by decide +kernel
theorem dX5_type_17 : decode cX5_type 17 = .ok (.ifCond .ne 6, 3) := by decide +kernel
theorem dX5_type_20 : decode cX5_type 20 = .ok (.bipush (-2), 2) := by decide +kernel
theorem dX5_type_22 : decode cX5_type 22 = .ok (.ireturn, 1) := by decide +kernel
theorem dX5_type_23 : decode cX5_type 23 = .ok (.aload_n 0, 1) := by decide +kernel
theorem dX5_type_24 : decode cX5_type 24 = .ok (.iload_n 1, 1) := by decide +kernel
theorem dX5_type_25 : decode cX5_type 25 = .ok (.invokevirtual 70, 3) := by decide +kernel
theorem dX5_type_28 : decode cX5_type 28 = .ok (.astore_n 3, 1) := by decide +kernel
theorem dX5_type_29 : decode cX5_type 29 = .ok (.aload_n 3, 1) := by decide +kernel
theorem dX5_type_30 : decode cX5_type 30 = .ok (.invokevirtual 74, 3) := by decide +kernel
theorem dX5_type_33 : decode cX5_type 33 = .ok (.ifCond .eq 6, 3) := by decide +kernel
theorem dX5_type_36 : decode cX5_type 36 = .ok (.bipush (-4), 2) := by decide +kernel
theorem dX5_type_38 : decode cX5_type 38 = .ok (.ireturn, 1) := by decide +kernel
theorem dX5_type_39 : decode cX5_type 39 = .ok (.aload_n 3, 1) := by decide +kernel
theorem dX5_type_40 : decode cX5_type 40 = .ok (.iload_n 2, 1) := by decide +kernel
theorem dX5_type_41 : decode cX5_type 41 = .ok (.invokevirtual 78, 3) := by decide +kernel
theorem dX5_type_44 : decode cX5_type 44 = .ok (.aload_n 0, 1) := by decide +kernel
theorem dX5_type_45 : decode cX5_type 45 = .ok (.invokevirtual 81, 3) := by decide +kernel
theorem dX5_type_48 : decode cX5_type 48 = .ok (.aload_n 3, 1) := by decide +kernel
theorem dX5_type_49 : decode cX5_type 49 = .ok (.getfield 84, 3) := by decide +kernel
theorem dX5_type_52 : decode cX5_type 52 = .ok (.ireturn, 1) := by decide +kernel
theorem dX5_wipe_0 : decode cX5_wipe 0 = .ok (.iload_n 1, 1) := by decide +kernel
theorem dX5_wipe_1 : decode cX5_wipe 1 = .ok (.iconst 0, 1) := by decide +kernel
theorem dX5_wipe_2 : decode cX5_wipe 2 = .ok (.iconst 1, 1) := by decide +kernel
theorem dX5_wipe_3 : decode cX5_wipe 3 = .ok (.invokestatic 66, 3) := by decide +kernel
theorem dX5_wipe_6 : decode cX5_wipe 6 = .ok (.ifCond .ne 6, 3) := by decide +kernel
theorem dX5_wipe_9 : decode cX5_wipe 9 = .ok (.bipush (-2), 2) := by decide +kernel
theorem dX5_wipe_11 : decode cX5_wipe 11 = .ok (.ireturn, 1) := by decide +kernel
theorem dX5_wipe_12 : decode cX5_wipe 12 = .ok (.aload_n 0, 1) := by decide +kernel
theorem dX5_wipe_13 : decode cX5_wipe 13 = .ok (.iload_n 1, 1) := by decide +kernel
theorem dX5_wipe_14 : decode cX5_wipe 14 = .ok (.invokevirtual 70, 3) := by decide +kernel
theorem dX5_wipe_17 : decode cX5_wipe 17 = .ok (.astore_n 2, 1) := by decide +kernel
theorem dX5_wipe_18 : decode cX5_wipe 18 = .ok (.aload_n 2, 1) := by decide +kernel
theorem dX5_wipe_19 : decode cX5_wipe 19 = .ok (.getfield 84, 3) := by decide +kernel
theorem dX5_wipe_22 : decode cX5_wipe 22 = .ok (.istore_n 3, 1) := by decide +kernel
theorem dX5_wipe_23 : decode cX5_wipe 23 = .ok (.aload_n 2, 1) := by decide +kernel
theorem dX5_wipe_24 : decode cX5_wipe 24 = .ok (.iconst 0, 1) := by decide +kernel
theorem dX5_wipe_25 : decode cX5_wipe 25 = .ok (.putfield 84, 3) := by decide +kernel
theorem dX5_wipe_28 : decode cX5_wipe 28 = .ok (.aload_n 0, 1) := by decide +kernel
theorem dX5_wipe_29 : decode cX5_wipe 29 = .ok (.invokevirtual 81, 3) := by decide +kernel
theorem dX5_wipe_32 : decode cX5_wipe 32 = .ok (.iload_n 3, 1) := by decide +kernel
theorem dX5_wipe_33 : decode cX5_wipe 33 = .ok (.ireturn, 1) := by decide +kernel
theorem dX5_undo_0 : decode cX5_undo 0 = .ok (.iload_n 1, 1) := by decide +kernel
theorem dX5_undo_1 : decode cX5_undo 1 = .ok (.iconst 0, 1) := by decide +kernel
theorem dX5_undo_2 : decode cX5_undo 2 = .ok (.iconst 1, 1) := by decide +kernel
theorem dX5_undo_3 : decode cX5_undo 3 = .ok (.invokestatic 66, 3) := by decide +kernel
theorem dX5_undo_6 : decode cX5_undo 6 = .ok (.ifCond .ne 6, 3) := by decide +kernel
theorem dX5_undo_9 : decode cX5_undo 9 = .ok (.bipush (-2), 2) := by decide +kernel
theorem dX5_undo_11 : decode cX5_undo 11 = .ok (.ireturn, 1) := by decide +kernel
theorem dX5_undo_12 : decode cX5_undo 12 = .ok (.aload_n 0, 1) := by decide +kernel
theorem dX5_undo_13 : decode cX5_undo 13 = .ok (.iload_n 1, 1) := by decide +kernel
theorem dX5_undo_14 : decode cX5_undo 14 = .ok (.invokevirtual 70, 3) := by decide +kernel
theorem dX5_undo_17 : decode cX5_undo 17 = .ok (.astore_n 2, 1) := by decide +kernel
theorem dX5_undo_18 : decode cX5_undo 18 = .ok (.aload_n 2, 1) := by decide +kernel
theorem dX5_undo_19 : decode cX5_undo 19 = .ok (.getfield 84, 3) := by decide +kernel
theorem dX5_undo_22 : decode cX5_undo 22 = .ok (.ifCond .ne 6, 3) := by decide +kernel
theorem dX5_undo_25 : decode cX5_undo 25 = .ok (.bipush (-3), 2) := by decide +kernel
theorem dX5_undo_27 : decode cX5_undo 27 = .ok (.ireturn, 1) := by decide +kernel
theorem dX5_undo_28 : decode cX5_undo 28 = .ok (.aload_n 2, 1) := by decide +kernel
theorem dX5_undo_29 : decode cX5_undo 29 = .ok (.dup, 1) := by decide +kernel
theorem dX5_undo_30 : decode cX5_undo 30 = .ok (.getfield 84, 3) := by decide +kernel
theorem dX5_undo_33 : decode cX5_undo 33 = .ok (.iconst 1, 1) := by decide +kernel
theorem dX5_undo_34 : decode cX5_undo 34 = .ok (.isub, 1) := by decide +kernel
theorem dX5_undo_35 : decode cX5_undo 35 = .ok (.putfield 84, 3) := by decide +kernel
theorem dX5_undo_38 : decode cX5_undo 38 = .ok (.aload_n 0, 1) := by decide +kernel
theorem dX5_undo_39 : decode cX5_undo 39 = .ok (.invokevirtual 81, 3) := by decide +kernel
theorem dX5_undo_42 : decode cX5_undo 42 = .ok (.aload_n 2, 1) := by decide +kernel
theorem dX5_undo_43 : decode cX5_undo 43 = .ok (.getfield 84, 3) := by decide +kernel
theorem dX5_undo_46 : decode cX5_undo 46 = .ok (.ireturn, 1) := by decide +kernel
theorem dX5_fault_0 : decode cX5_fault 0 = .ok (.iload_n 1, 1) := by decide +kernel
theorem dX5_fault_1 : decode cX5_fault 1 = .ok (.iconst 0, 1) := by decide +kernel
theorem dX5_fault_2 : decode cX5_fault 2 = .ok (.iconst 1, 1) := by decide +kernel
theorem dX5_fault_3 : decode cX5_fault 3 = .ok (.invokestatic 66, 3) := by decide +kernel
theorem dX5_fault_6 : decode cX5_fault 6 = .ok (.ifCond .eq 14, 3) := by decide +kernel
theorem dX5_fault_9 : decode cX5_fault 9 = .ok (.aload_n 0, 1) := by decide +kernel
theorem dX5_fault_10 : decode cX5_fault 10 = .ok (.iload_n 1, 1) := by decide +kernel
theorem dX5_fault_11 : decode cX5_fault 11 = .ok (.invokevirtual 70, 3) := by decide +kernel
theorem dX5_fault_14 : decode cX5_fault 14 = .ok (.getfield 88, 3) := by decide +kernel
theorem dX5_fault_17 : decode cX5_fault 17 = .ok (.goto 5, 3) := by decide +kernel
theorem dX5_fault_20 : decode cX5_fault 20 = .ok (.bipush (-2), 2) := by decide +kernel
theorem dX5_fault_22 : decode cX5_fault 22 = .ok (.ireturn, 1) := by decide +kernel
theorem dX5_house_0 : decode cX5_house 0 = .ok (.aload_n 0, 1) := by decide +kernel
theorem dX5_house_1 : decode cX5_house 1 = .ok (.iload_n 1, 1) := by decide +kernel
theorem dX5_house_2 : decode cX5_house 2 = .ok (.invokevirtual 91, 3) := by decide +kernel
theorem dX5_house_5 : decode cX5_house 5 = .ok (.ifCond .eq 13, 3) := by decide +kernel
theorem dX5_house_8 : decode cX5_house 8 = .ok (.iload_n 2, 1) := by decide +kernel
theorem dX5_house_9 : decode cX5_house 9 = .ok (.iconst 0, 1) := by decide +kernel
theorem dX5_house_10 : decode cX5_house 10 = .ok (.bipush 6, 2) := by decide +kernel
theorem dX5_house_12 : decode cX5_house 12 = .ok (.invokestatic 66, 3) := by decide +kernel
theorem dX5_house_15 : decode cX5_house 15 = .ok (.ifCond .ne 6, 3) := by decide +kernel
theorem dX5_house_18 : decode cX5_house 18 = .ok (.bipush (-2), 2) := by decide +kernel
theorem dX5_house_20 : decode cX5_house 20 = .ok (.ireturn, 1) := by decide +kernel
theorem dX5_house_21 : decode cX5_house 21 = .ok (.iload_n 2, 1) := by decide +kernel
theorem dX5_house_22 : decode cX5_house 22 = .ok (.tableswitch 82 0 3 #[30, 43, 56, 69], 30) := by decide +kernel
theorem dX5_house_52 : decode cX5_house 52 = .ok (.aload_n 0, 1) := by decide +kernel
theorem dX5_house_53 : decode cX5_house 53 = .ok (.getfield 26, 3) := by decide +kernel
theorem dX5_house_56 : decode cX5_house 56 = .ok (.getfield 95, 3) := by decide +kernel
theorem dX5_house_59 : decode cX5_house 59 = .ok (.getfield 99, 3) := by decide +kernel
theorem dX5_house_62 : decode cX5_house 62 = .ok (.iload_n 1, 1) := by decide +kernel
theorem dX5_house_63 : decode cX5_house 63 = .ok (.iaload, 1) := by decide +kernel
theorem dX5_house_64 : decode cX5_house 64 = .ok (.ireturn, 1) := by decide +kernel
theorem dX5_house_65 : decode cX5_house 65 = .ok (.aload_n 0, 1) := by decide +kernel
theorem dX5_house_66 : decode cX5_house 66 = .ok (.getfield 26, 3) := by decide +kernel
theorem dX5_house_69 : decode cX5_house 69 = .ok (.getfield 95, 3) := by decide +kernel
theorem dX5_house_72 : decode cX5_house 72 = .ok (.getfield 104, 3) := by decide +kernel
theorem dX5_house_75 : decode cX5_house 75 = .ok (.iload_n 1, 1) := by decide +kernel
theorem dX5_house_76 : decode cX5_house 76 = .ok (.iaload, 1) := by decide +kernel
theorem dX5_house_77 : decode cX5_house 77 = .ok (.ireturn, 1) := by decide +kernel
theorem dX5_house_78 : decode cX5_house 78 = .ok (.aload_n 0, 1) := by decide +kernel
theorem dX5_house_79 : decode cX5_house 79 = .ok (.getfield 26, 3) := by decide +kernel
theorem dX5_house_82 : decode cX5_house 82 = .ok (.getfield 95, 3) := by decide +kernel
theorem dX5_house_85 : decode cX5_house 85 = .ok (.getfield 107, 3) := by decide +kernel
theorem dX5_house_88 : decode cX5_house 88 = .ok (.iload_n 1, 1) := by decide +kernel
theorem dX5_house_89 : decode cX5_house 89 = .ok (.iaload, 1) := by decide +kernel
theorem dX5_house_90 : decode cX5_house 90 = .ok (.ireturn, 1) := by decide +kernel
theorem dX5_house_91 : decode cX5_house 91 = .ok (.aload_n 0, 1) := by decide +kernel
theorem dX5_house_92 : decode cX5_house 92 = .ok (.getfield 26, 3) := by decide +kernel
theorem dX5_house_95 : decode cX5_house 95 = .ok (.getfield 95, 3) := by decide +kernel
theorem dX5_house_98 : decode cX5_house 98 = .ok (.getfield 110, 3) := by decide +kernel
theorem dX5_house_101 : decode cX5_house 101 = .ok (.iload_n 1, 1) := by decide +kernel
theorem dX5_house_102 : decode cX5_house 102 = .ok (.iaload, 1) := by decide +kernel
theorem dX5_house_103 : decode cX5_house 103 = .ok (.ireturn, 1) := by decide +kernel
theorem dX5_house_104 : decode cX5_house 104 = .ok (.aload_n 0, 1) := by decide +kernel
theorem dX5_house_105 : decode cX5_house 105 = .ok (.getfield 26, 3) := by decide +kernel
theorem dX5_house_108 : decode cX5_house 108 = .ok (.getfield 95, 3) := by decide +kernel
theorem dX5_house_111 : decode cX5_house 111 = .ok (.iload_n 1, 1) := by decide +kernel
theorem dX5_house_112 : decode cX5_house 112 = .ok (.iload_n 2, 1) := by decide +kernel
theorem dX5_house_113 : decode cX5_house 113 = .ok (.iconst 4, 1) := by decide +kernel
theorem dX5_house_114 : decode cX5_house 114 = .ok (.isub, 1) := by decide +kernel
theorem dX5_house_115 : decode cX5_house 115 = .ok (.invokevirtual 113, 3) := by decide +kernel
theorem dX5_house_118 : decode cX5_house 118 = .ok (.ireturn, 1) := by decide +kernel
theorem dX5_elbows_0 : decode cX5_elbows 0 = .ok (.iload_n 1, 1) := by decide +kernel
theorem dX5_elbows_1 : decode cX5_elbows 1 = .ok (.invokestatic 117, 3) := by decide +kernel
theorem dX5_elbows_4 : decode cX5_elbows 4 = .ok (.ifCond .eq 15, 3) := by decide +kernel
theorem dX5_elbows_7 : decode cX5_elbows 7 = .ok (.aload_n 0, 1) := by decide +kernel
theorem dX5_elbows_8 : decode cX5_elbows 8 = .ok (.getfield 26, 3) := by decide +kernel
theorem dX5_elbows_11 : decode cX5_elbows 11 = .ok (.getfield 120, 3) := by decide +kernel
theorem dX5_elbows_14 : decode cX5_elbows 14 = .ok (.iload_n 1, 1) := by decide +kernel
theorem dX5_elbows_15 : decode cX5_elbows 15 = .ok (.iaload, 1) := by decide +kernel
theorem dX5_elbows_16 : decode cX5_elbows 16 = .ok (.goto 5, 3) := by decide +kernel
theorem dX5_elbows_19 : decode cX5_elbows 19 = .ok (.bipush (-2), 2) := by decide +kernel
theorem dX5_elbows_21 : decode cX5_elbows 21 = .ok (.ireturn, 1) := by decide +kernel
theorem dX5_set_0 : decode cX5_set 0 = .ok (.iload_n 1, 1) := by decide +kernel
theorem dX5_set_1 : decode cX5_set 1 = .ok (.ifCond .ne 32, 3) := by decide +kernel
theorem dX5_set_4 : decode cX5_set 4 = .ok (.iload_n 2, 1) := by decide +kernel
theorem dX5_set_5 : decode cX5_set 5 = .ok (.iconst 0, 1) := by decide +kernel
theorem dX5_set_6 : decode cX5_set 6 = .ok (.bipush 60, 2) := by decide +kernel
theorem dX5_set_8 : decode cX5_set 8 = .ok (.invokestatic 66, 3) := by decide +kernel
theorem dX5_set_11 : decode cX5_set 11 = .ok (.ifCond .eq 22, 3) := by decide +kernel
theorem dX5_set_14 : decode cX5_set 14 = .ok (.aload_n 0, 1) := by decide +kernel
theorem dX5_set_15 : decode cX5_set 15 = .ok (.getfield 26, 3) := by decide +kernel
theorem dX5_set_18 : decode cX5_set 18 = .ok (.getfield 123, 3) := by decide +kernel
theorem dX5_set_21 : decode cX5_set 21 = .ok (.istore_n 3, 1) := by decide +kernel
theorem dX5_set_22 : decode cX5_set 22 = .ok (.aload_n 0, 1) := by decide +kernel
theorem dX5_set_23 : decode cX5_set 23 = .ok (.getfield 26, 3) := by decide +kernel
theorem dX5_set_26 : decode cX5_set 26 = .ok (.iload_n 2, 1) := by decide +kernel
theorem dX5_set_27 : decode cX5_set 27 = .ok (.putfield 123, 3) := by decide +kernel
theorem dX5_set_30 : decode cX5_set 30 = .ok (.goto 74, 3) := by decide +kernel
theorem dX5_set_33 : decode cX5_set 33 = .ok (.iload_n 1, 1) := by decide +kernel
theorem dX5_set_34 : decode cX5_set 34 = .ok (.iconst 1, 1) := by decide +kernel
theorem dX5_set_35 : decode cX5_set 35 = .ok (.if_icmp .ne 32, 3) := by decide +kernel
theorem dX5_set_38 : decode cX5_set 38 = .ok (.iload_n 2, 1) := by decide +kernel
theorem dX5_set_39 : decode cX5_set 39 = .ok (.iconst 1, 1) := by decide +kernel
theorem dX5_set_40 : decode cX5_set 40 = .ok (.bipush 99, 2) := by decide +kernel
theorem dX5_set_42 : decode cX5_set 42 = .ok (.invokestatic 66, 3) := by decide +kernel
theorem dX5_set_45 : decode cX5_set 45 = .ok (.ifCond .eq 22, 3) := by decide +kernel
theorem dX5_set_48 : decode cX5_set 48 = .ok (.aload_n 0, 1) := by decide +kernel
theorem dX5_set_49 : decode cX5_set 49 = .ok (.getfield 26, 3) := by decide +kernel
theorem dX5_set_52 : decode cX5_set 52 = .ok (.getfield 126, 3) := by decide +kernel
theorem dX5_set_55 : decode cX5_set 55 = .ok (.istore_n 3, 1) := by decide +kernel
theorem dX5_set_56 : decode cX5_set 56 = .ok (.aload_n 0, 1) := by decide +kernel
theorem dX5_set_57 : decode cX5_set 57 = .ok (.getfield 26, 3) := by decide +kernel
theorem dX5_set_60 : decode cX5_set 60 = .ok (.iload_n 2, 1) := by decide +kernel
theorem dX5_set_61 : decode cX5_set 61 = .ok (.putfield 126, 3) := by decide +kernel
theorem dX5_set_64 : decode cX5_set 64 = .ok (.goto 40, 3) := by decide +kernel
theorem dX5_set_67 : decode cX5_set 67 = .ok (.iload_n 1, 1) := by decide +kernel
theorem dX5_set_68 : decode cX5_set 68 = .ok (.iconst 2, 1) := by decide +kernel
theorem dX5_set_69 : decode cX5_set 69 = .ok (.if_icmp .ne 32, 3) := by decide +kernel
theorem dX5_set_72 : decode cX5_set 72 = .ok (.iload_n 2, 1) := by decide +kernel
theorem dX5_set_73 : decode cX5_set 73 = .ok (.iconst 1, 1) := by decide +kernel
theorem dX5_set_74 : decode cX5_set 74 = .ok (.bipush 9, 2) := by decide +kernel
theorem dX5_set_76 : decode cX5_set 76 = .ok (.invokestatic 66, 3) := by decide +kernel
theorem dX5_set_79 : decode cX5_set 79 = .ok (.ifCond .eq 22, 3) := by decide +kernel
theorem dX5_set_82 : decode cX5_set 82 = .ok (.aload_n 0, 1) := by decide +kernel
theorem dX5_set_83 : decode cX5_set 83 = .ok (.getfield 26, 3) := by decide +kernel
theorem dX5_set_86 : decode cX5_set 86 = .ok (.getfield 129, 3) := by decide +kernel
theorem dX5_set_89 : decode cX5_set 89 = .ok (.istore_n 3, 1) := by decide +kernel
theorem dX5_set_90 : decode cX5_set 90 = .ok (.aload_n 0, 1) := by decide +kernel
theorem dX5_set_91 : decode cX5_set 91 = .ok (.getfield 26, 3) := by decide +kernel
theorem dX5_set_94 : decode cX5_set 94 = .ok (.iload_n 2, 1) := by decide +kernel
theorem dX5_set_95 : decode cX5_set 95 = .ok (.putfield 129, 3) := by decide +kernel
theorem dX5_set_98 : decode cX5_set 98 = .ok (.goto 6, 3) := by decide +kernel
theorem dX5_set_101 : decode cX5_set 101 = .ok (.bipush (-2), 2) := by decide +kernel
theorem dX5_set_103 : decode cX5_set 103 = .ok (.ireturn, 1) := by decide +kernel
theorem dX5_set_104 : decode cX5_set 104 = .ok (.aload_n 0, 1) := by decide +kernel
theorem dX5_set_105 : decode cX5_set 105 = .ok (.invokevirtual 132, 3) := by decide +kernel
theorem dX5_set_108 : decode cX5_set 108 = .ok (.iload_n 3, 1) := by decide +kernel
theorem dX5_set_109 : decode cX5_set 109 = .ok (.ireturn, 1) := by decide +kernel
theorem dX5_leak_0 : decode cX5_leak 0 = .ok (.iload_n 1, 1) := by decide +kernel
theorem dX5_leak_1 : decode cX5_leak 1 = .ok (.invokestatic 117, 3) := by decide +kernel
theorem dX5_leak_4 : decode cX5_leak 4 = .ok (.ifCond .eq 20, 3) := by decide +kernel
theorem dX5_leak_7 : decode cX5_leak 7 = .ok (.iload_n 2, 1) := by decide +kernel
theorem dX5_leak_8 : decode cX5_leak 8 = .ok (.iconst 1, 1) := by decide +kernel
theorem dX5_leak_9 : decode cX5_leak 9 = .ok (.bipush 9, 2) := by decide +kernel
theorem dX5_leak_11 : decode cX5_leak 11 = .ok (.invokestatic 66, 3) := by decide +kernel
theorem dX5_leak_14 : decode cX5_leak 14 = .ok (.ifCond .eq 10, 3) := by decide +kernel
theorem dX5_leak_17 : decode cX5_leak 17 = .ok (.iload_n 3, 1) := by decide +kernel
theorem dX5_leak_18 : decode cX5_leak 18 = .ok (.invokestatic 117, 3) := by decide +kernel
theorem dX5_leak_21 : decode cX5_leak 21 = .ok (.ifCond .ne 6, 3) := by decide +kernel
theorem dX5_leak_24 : decode cX5_leak 24 = .ok (.bipush (-2), 2) := by decide +kernel
theorem dX5_leak_26 : decode cX5_leak 26 = .ok (.ireturn, 1) := by decide +kernel
theorem dX5_leak_27 : decode cX5_leak 27 = .ok (.aload_n 0, 1) := by decide +kernel
theorem dX5_leak_28 : decode cX5_leak 28 = .ok (.getfield 26, 3) := by decide +kernel
theorem dX5_leak_31 : decode cX5_leak 31 = .ok (.getfield 135, 3) := by decide +kernel
theorem dX5_leak_34 : decode cX5_leak 34 = .ok (.bipush 6, 2) := by decide +kernel
theorem dX5_leak_36 : decode cX5_leak 36 = .ok (.if_icmp .lt 6, 3) := by decide +kernel
theorem dX5_leak_39 : decode cX5_leak 39 = .ok (.bipush (-4), 2) := by decide +kernel
theorem dX5_leak_41 : decode cX5_leak 41 = .ok (.ireturn, 1) := by decide +kernel
theorem dX5_leak_42 : decode cX5_leak 42 = .ok (.aload_n 0, 1) := by decide +kernel
theorem dX5_leak_43 : decode cX5_leak 43 = .ok (.getfield 26, 3) := by decide +kernel
theorem dX5_leak_46 : decode cX5_leak 46 = .ok (.iload_n 1, 1) := by decide +kernel
theorem dX5_leak_47 : decode cX5_leak 47 = .ok (.iload_n 2, 1) := by decide +kernel
theorem dX5_leak_48 : decode cX5_leak 48 = .ok (.iload_n 3, 1) := by decide +kernel
theorem dX5_leak_49 : decode cX5_leak 49 = .ok (.invokevirtual 138, 3) := by decide +kernel
theorem dX5_leak_52 : decode cX5_leak 52 = .ok (.aload_n 0, 1) := by decide +kernel
theorem dX5_leak_53 : decode cX5_leak 53 = .ok (.invokevirtual 132, 3) := by decide +kernel
theorem dX5_leak_56 : decode cX5_leak 56 = .ok (.aload_n 0, 1) := by decide +kernel
theorem dX5_leak_57 : decode cX5_leak 57 = .ok (.getfield 26, 3) := by decide +kernel
theorem dX5_leak_60 : decode cX5_leak 60 = .ok (.getfield 135, 3) := by decide +kernel
theorem dX5_leak_63 : decode cX5_leak 63 = .ok (.ireturn, 1) := by decide +kernel
theorem dX5_pinch_0 : decode cX5_pinch 0 = .ok (.iload_n 1, 1) := by decide +kernel
theorem dX5_pinch_1 : decode cX5_pinch 1 = .ok (.iload_n 2, 1) := by decide +kernel
theorem dX5_pinch_2 : decode cX5_pinch 2 = .ok (.invokestatic 142, 3) := by decide +kernel
theorem dX5_pinch_5 : decode cX5_pinch 5 = .ok (.ifCond .ne 6, 3) := by decide +kernel
theorem dX5_pinch_8 : decode cX5_pinch 8 = .ok (.bipush (-2), 2) := by decide +kernel
theorem dX5_pinch_10 : decode cX5_pinch 10 = .ok (.ireturn, 1) := by decide +kernel
theorem dX5_pinch_11 : decode cX5_pinch 11 = .ok (.aload_n 0, 1) := by decide +kernel
theorem dX5_pinch_12 : decode cX5_pinch 12 = .ok (.getfield 26, 3) := by decide +kernel
theorem dX5_pinch_15 : decode cX5_pinch 15 = .ok (.getfield 146, 3) := by decide +kernel
theorem dX5_pinch_18 : decode cX5_pinch 18 = .ok (.bipush 6, 2) := by decide +kernel
theorem dX5_pinch_20 : decode cX5_pinch 20 = .ok (.if_icmp .lt 6, 3) := by decide +kernel
theorem dX5_pinch_23 : decode cX5_pinch 23 = .ok (.bipush (-4), 2) := by decide +kernel
theorem dX5_pinch_25 : decode cX5_pinch 25 = .ok (.ireturn, 1) := by decide +kernel
theorem dX5_pinch_26 : decode cX5_pinch 26 = .ok (.aload_n 0, 1) := by decide +kernel
theorem dX5_pinch_27 : decode cX5_pinch 27 = .ok (.getfield 26, 3) := by decide +kernel
theorem dX5_pinch_30 : decode cX5_pinch 30 = .ok (.iload_n 1, 1) := by decide +kernel
theorem dX5_pinch_31 : decode cX5_pinch 31 = .ok (.iload_n 2, 1) := by decide +kernel
theorem dX5_pinch_32 : decode cX5_pinch 32 = .ok (.invokevirtual 149, 3) := by decide +kernel
theorem dX5_pinch_35 : decode cX5_pinch 35 = .ok (.aload_n 0, 1) := by decide +kernel
theorem dX5_pinch_36 : decode cX5_pinch 36 = .ok (.invokevirtual 132, 3) := by decide +kernel
theorem dX5_pinch_39 : decode cX5_pinch 39 = .ok (.aload_n 0, 1) := by decide +kernel
theorem dX5_pinch_40 : decode cX5_pinch 40 = .ok (.getfield 26, 3) := by decide +kernel
theorem dX5_pinch_43 : decode cX5_pinch 43 = .ok (.getfield 146, 3) := by decide +kernel
theorem dX5_pinch_46 : decode cX5_pinch 46 = .ok (.ireturn, 1) := by decide +kernel
theorem dX5_back_0 : decode cX5_back 0 = .ok (.iload_n 1, 1) := by decide +kernel
theorem dX5_back_1 : decode cX5_back 1 = .ok (.iconst 0, 1) := by decide +kernel
theorem dX5_back_2 : decode cX5_back 2 = .ok (.iconst 1, 1) := by decide +kernel
theorem dX5_back_3 : decode cX5_back 3 = .ok (.invokestatic 66, 3) := by decide +kernel
theorem dX5_back_6 : decode cX5_back 6 = .ok (.ifCond .ne 6, 3) := by decide +kernel
theorem dX5_back_9 : decode cX5_back 9 = .ok (.bipush (-2), 2) := by decide +kernel
theorem dX5_back_11 : decode cX5_back 11 = .ok (.ireturn, 1) := by decide +kernel
theorem dX5_back_12 : decode cX5_back 12 = .ok (.iload_n 1, 1) := by decide +kernel
theorem dX5_back_13 : decode cX5_back 13 = .ok (.ifCond .ne 13, 3) := by decide +kernel
theorem dX5_back_16 : decode cX5_back 16 = .ok (.aload_n 0, 1) := by decide +kernel
theorem dX5_back_17 : decode cX5_back 17 = .ok (.getfield 26, 3) := by decide +kernel
theorem dX5_back_20 : decode cX5_back 20 = .ok (.getfield 135, 3) := by decide +kernel
theorem dX5_back_23 : decode cX5_back 23 = .ok (.goto 10, 3) := by decide +kernel
theorem dX5_back_26 : decode cX5_back 26 = .ok (.aload_n 0, 1) := by decide +kernel
theorem dX5_back_27 : decode cX5_back 27 = .ok (.getfield 26, 3) := by decide +kernel
theorem dX5_back_30 : decode cX5_back 30 = .ok (.getfield 146, 3) := by decide +kernel
theorem dX5_back_33 : decode cX5_back 33 = .ok (.istore_n 2, 1) := by decide +kernel
theorem dX5_back_34 : decode cX5_back 34 = .ok (.iload_n 2, 1) := by decide +kernel
theorem dX5_back_35 : decode cX5_back 35 = .ok (.ifCond .ne 6, 3) := by decide +kernel
theorem dX5_back_38 : decode cX5_back 38 = .ok (.bipush (-3), 2) := by decide +kernel
theorem dX5_back_40 : decode cX5_back 40 = .ok (.ireturn, 1) := by decide +kernel
theorem dX5_back_41 : decode cX5_back 41 = .ok (.iload_n 1, 1) := by decide +kernel
theorem dX5_back_42 : decode cX5_back 42 = .ok (.ifCond .ne 19, 3) := by decide +kernel
theorem dX5_back_45 : decode cX5_back 45 = .ok (.aload_n 0, 1) := by decide +kernel
theorem dX5_back_46 : decode cX5_back 46 = .ok (.getfield 26, 3) := by decide +kernel
theorem dX5_back_49 : decode cX5_back 49 = .ok (.dup, 1) := by decide +kernel
theorem dX5_back_50 : decode cX5_back 50 = .ok (.getfield 135, 3) := by decide +kernel
theorem dX5_back_53 : decode cX5_back 53 = .ok (.iconst 1, 1) := by decide +kernel
theorem dX5_back_54 : decode cX5_back 54 = .ok (.isub, 1) := by decide +kernel
theorem dX5_back_55 : decode cX5_back 55 = .ok (.putfield 135, 3) := by decide +kernel
theorem dX5_back_58 : decode cX5_back 58 = .ok (.goto 16, 3) := by decide +kernel
theorem dX5_back_61 : decode cX5_back 61 = .ok (.aload_n 0, 1) := by decide +kernel
theorem dX5_back_62 : decode cX5_back 62 = .ok (.getfield 26, 3) := by decide +kernel
theorem dX5_back_65 : decode cX5_back 65 = .ok (.dup, 1) := by decide +kernel
theorem dX5_back_66 : decode cX5_back 66 = .ok (.getfield 146, 3) := by decide +kernel
theorem dX5_back_69 : decode cX5_back 69 = .ok (.iconst 1, 1) := by decide +kernel
theorem dX5_back_70 : decode cX5_back 70 = .ok (.isub, 1) := by decide +kernel
theorem dX5_back_71 : decode cX5_back 71 = .ok (.putfield 146, 3) := by decide +kernel
theorem dX5_back_74 : decode cX5_back 74 = .ok (.aload_n 0, 1) := by decide +kernel
theorem dX5_back_75 : decode cX5_back 75 = .ok (.invokevirtual 132, 3) := by decide +kernel
theorem dX5_back_78 : decode cX5_back 78 = .ok (.iload_n 2, 1) := by decide +kernel
theorem dX5_back_79 : decode cX5_back 79 = .ok (.iconst 1, 1) := by decide +kernel
theorem dX5_back_80 : decode cX5_back 80 = .ok (.isub, 1) := by decide +kernel
theorem dX5_back_81 : decode cX5_back 81 = .ok (.ireturn, 1) := by decide +kernel
theorem dX5_read_0 : decode cX5_read 0 = .ok (.iload_n 1, 1) := by decide +kernel
theorem dX5_read_1 : decode cX5_read 1 = .ok (.invokestatic 153, 3) := by decide +kernel
theorem dX5_read_4 : decode cX5_read 4 = .ok (.ifCond .ne 6, 3) := by decide +kernel
theorem dX5_read_7 : decode cX5_read 7 = .ok (.bipush (-2), 2) := by decide +kernel
theorem dX5_read_9 : decode cX5_read 9 = .ok (.ireturn, 1) := by decide +kernel
theorem dX5_read_10 : decode cX5_read 10 = .ok (.aload_n 0, 1) := by decide +kernel
theorem dX5_read_11 : decode cX5_read 11 = .ok (.getfield 62, 3) := by decide +kernel
theorem dX5_read_14 : decode cX5_read 14 = .ok (.iload_n 1, 1) := by decide +kernel
theorem dX5_read_15 : decode cX5_read 15 = .ok (.invokevirtual 156, 3) := by decide +kernel
theorem dX5_read_18 : decode cX5_read 18 = .ok (.ifCond .eq 9, 3) := by decide +kernel
theorem dX5_read_21 : decode cX5_read 21 = .ok (.aload_n 0, 1) := by decide +kernel
theorem dX5_read_22 : decode cX5_read 22 = .ok (.iconst 1, 1) := by decide +kernel
theorem dX5_read_23 : decode cX5_read 23 = .ok (.invokevirtual 159, 3) := by decide +kernel
theorem dX5_read_26 : decode cX5_read 26 = .ok (.ireturn, 1) := by decide +kernel
theorem dX5_read_27 : decode cX5_read 27 = .ok (.aload_n 0, 1) := by decide +kernel
theorem dX5_read_28 : decode cX5_read 28 = .ok (.getfield 26, 3) := by decide +kernel
theorem dX5_read_31 : decode cX5_read 31 = .ok (.getfield 146, 3) := by decide +kernel
theorem dX5_read_34 : decode cX5_read 34 = .ok (.istore_n 2, 1) := by decide +kernel
theorem dX5_read_35 : decode cX5_read 35 = .ok (.aload_n 0, 1) := by decide +kernel
theorem dX5_read_36 : decode cX5_read 36 = .ok (.getfield 62, 3) := by decide +kernel
theorem dX5_read_39 : decode cX5_read 39 = .ok (.getfield 163, 3) := by decide +kernel
theorem dX5_read_42 : decode cX5_read 42 = .ok (.iload_n 1, 1) := by decide +kernel
theorem dX5_read_43 : decode cX5_read 43 = .ok (.iaload, 1) := by decide +kernel
theorem dX5_read_44 : decode cX5_read 44 = .ok (.iconst 2, 1) := by decide +kernel
theorem dX5_read_45 : decode cX5_read 45 = .ok (.idiv, 1) := by decide +kernel
theorem dX5_read_46 : decode cX5_read 46 = .ok (.istore_n 3, 1) := by decide +kernel
theorem dX5_read_47 : decode cX5_read 47 = .ok (.iconst 0, 1) := by decide +kernel
theorem dX5_read_48 : decode cX5_read 48 = .ok (.istore 4, 2) := by decide +kernel
theorem dX5_read_50 : decode cX5_read 50 = .ok (.iload 4, 2) := by decide +kernel
theorem dX5_read_52 : decode cX5_read 52 = .ok (.iload_n 3, 1) := by decide +kernel
theorem dX5_read_53 : decode cX5_read 53 = .ok (.if_icmp .ge 75, 3) := by decide +kernel
theorem dX5_read_56 : decode cX5_read 56 = .ok (.aload_n 0, 1) := by decide +kernel
theorem dX5_read_57 : decode cX5_read 57 = .ok (.getfield 26, 3) := by decide +kernel
theorem dX5_read_60 : decode cX5_read 60 = .ok (.getfield 146, 3) := by decide +kernel
theorem dX5_read_63 : decode cX5_read 63 = .ok (.bipush 6, 2) := by decide +kernel
theorem dX5_read_65 : decode cX5_read 65 = .ok (.if_icmp .ge 63, 3) := by decide +kernel
theorem dX5_read_68 : decode cX5_read 68 = .ok (.aload_n 0, 1) := by decide +kernel
theorem dX5_read_69 : decode cX5_read 69 = .ok (.getfield 62, 3) := by decide +kernel
theorem dX5_read_72 : decode cX5_read 72 = .ok (.iload_n 1, 1) := by decide +kernel
theorem dX5_read_73 : decode cX5_read 73 = .ok (.iconst 2, 1) := by decide +kernel
theorem dX5_read_74 : decode cX5_read 74 = .ok (.iload 4, 2) := by decide +kernel
theorem dX5_read_76 : decode cX5_read 76 = .ok (.imul, 1) := by decide +kernel
theorem dX5_read_77 : decode cX5_read 77 = .ok (.invokevirtual 165, 3) := by decide +kernel
theorem dX5_read_80 : decode cX5_read 80 = .ok (.istore 5, 2) := by decide +kernel
theorem dX5_read_82 : decode cX5_read 82 = .ok (.aload_n 0, 1) := by decide +kernel
theorem dX5_read_83 : decode cX5_read 83 = .ok (.getfield 62, 3) := by decide +kernel
theorem dX5_read_86 : decode cX5_read 86 = .ok (.iload_n 1, 1) := by decide +kernel
theorem dX5_read_87 : decode cX5_read 87 = .ok (.iconst 2, 1) := by decide +kernel
theorem dX5_read_88 : decode cX5_read 88 = .ok (.iload 4, 2) := by decide +kernel
theorem dX5_read_90 : decode cX5_read 90 = .ok (.imul, 1) := by decide +kernel
theorem dX5_read_91 : decode cX5_read 91 = .ok (.iconst 1, 1) := by decide +kernel
theorem dX5_read_92 : decode cX5_read 92 = .ok (.iadd, 1) := by decide +kernel
theorem dX5_read_93 : decode cX5_read 93 = .ok (.invokevirtual 165, 3) := by decide +kernel
theorem dX5_read_96 : decode cX5_read 96 = .ok (.istore 6, 2) := by decide +kernel
theorem dX5_read_98 : decode cX5_read 98 = .ok (.iload 5, 2) := by decide +kernel
theorem dX5_read_100 : decode cX5_read 100 = .ok (.iload 6, 2) := by decide +kernel
theorem dX5_read_102 : decode cX5_read 102 = .ok (.invokestatic 142, 3) := by decide +kernel
theorem dX5_read_105 : decode cX5_read 105 = .ok (.ifCond .ne 6, 3) := by decide +kernel
theorem dX5_read_108 : decode cX5_read 108 = .ok (.goto 20, 3) := by decide +kernel
theorem dX5_read_111 : decode cX5_read 111 = .ok (.aload_n 0, 1) := by decide +kernel
theorem dX5_read_112 : decode cX5_read 112 = .ok (.getfield 26, 3) := by decide +kernel
theorem dX5_read_115 : decode cX5_read 115 = .ok (.iload 5, 2) := by decide +kernel
theorem dX5_read_117 : decode cX5_read 117 = .ok (.iload 6, 2) := by decide +kernel
theorem dX5_read_119 : decode cX5_read 119 = .ok (.invokevirtual 149, 3) := by decide +kernel
theorem dX5_read_122 : decode cX5_read 122 = .ok (.iinc 4 1, 3) := by decide +kernel
theorem dX5_read_125 : decode cX5_read 125 = .ok (.goto (-75), 3) := by decide +kernel
theorem dX5_read_128 : decode cX5_read 128 = .ok (.aload_n 0, 1) := by decide +kernel
theorem dX5_read_129 : decode cX5_read 129 = .ok (.invokevirtual 132, 3) := by decide +kernel
theorem dX5_read_132 : decode cX5_read 132 = .ok (.aload_n 0, 1) := by decide +kernel
theorem dX5_read_133 : decode cX5_read 133 = .ok (.getfield 26, 3) := by decide +kernel
theorem dX5_read_136 : decode cX5_read 136 = .ok (.getfield 146, 3) := by decide +kernel
theorem dX5_read_139 : decode cX5_read 139 = .ok (.iload_n 2, 1) := by decide +kernel
theorem dX5_read_140 : decode cX5_read 140 = .ok (.isub, 1) := by decide +kernel
theorem dX5_read_141 : decode cX5_read 141 = .ok (.ireturn, 1) := by decide +kernel
theorem dX5_bag_0 : decode cX5_bag 0 = .ok (.iload_n 1, 1) := by decide +kernel
theorem dX5_bag_1 : decode cX5_bag 1 = .ok (.invokestatic 117, 3) := by decide +kernel
theorem dX5_bag_4 : decode cX5_bag 4 = .ok (.ifCond .eq 12, 3) := by decide +kernel
theorem dX5_bag_7 : decode cX5_bag 7 = .ok (.iload_n 2, 1) := by decide +kernel
theorem dX5_bag_8 : decode cX5_bag 8 = .ok (.iconst 0, 1) := by decide +kernel
theorem dX5_bag_9 : decode cX5_bag 9 = .ok (.iconst 3, 1) := by decide +kernel
theorem dX5_bag_10 : decode cX5_bag 10 = .ok (.invokestatic 66, 3) := by decide +kernel
theorem dX5_bag_13 : decode cX5_bag 13 = .ok (.ifCond .ne 6, 3) := by decide +kernel
theorem dX5_bag_16 : decode cX5_bag 16 = .ok (.bipush (-2), 2) := by decide +kernel
theorem dX5_bag_18 : decode cX5_bag 18 = .ok (.ireturn, 1) := by decide +kernel
theorem dX5_bag_19 : decode cX5_bag 19 = .ok (.aload_n 0, 1) := by decide +kernel
theorem dX5_bag_20 : decode cX5_bag 20 = .ok (.invokevirtual 168, 3) := by decide +kernel
theorem dX5_bag_23 : decode cX5_bag 23 = .ok (.astore_n 3, 1) := by decide +kernel
theorem dX5_bag_24 : decode cX5_bag 24 = .ok (.iload_n 2, 1) := by decide +kernel
theorem dX5_bag_25 : decode cX5_bag 25 = .ok (.tableswitch 48 0 2 #[27, 34, 41], 27) := by decide +kernel
theorem dX5_bag_52 : decode cX5_bag 52 = .ok (.aload_n 3, 1) := by decide +kernel
theorem dX5_bag_53 : decode cX5_bag 53 = .ok (.getfield 172, 3) := by decide +kernel
theorem dX5_bag_56 : decode cX5_bag 56 = .ok (.iload_n 1, 1) := by decide +kernel
theorem dX5_bag_57 : decode cX5_bag 57 = .ok (.iaload, 1) := by decide +kernel
theorem dX5_bag_58 : decode cX5_bag 58 = .ok (.ireturn, 1) := by decide +kernel
theorem dX5_bag_59 : decode cX5_bag 59 = .ok (.aload_n 3, 1) := by decide +kernel
theorem dX5_bag_60 : decode cX5_bag 60 = .ok (.getfield 175, 3) := by decide +kernel
theorem dX5_bag_63 : decode cX5_bag 63 = .ok (.iload_n 1, 1) := by decide +kernel
theorem dX5_bag_64 : decode cX5_bag 64 = .ok (.iaload, 1) := by decide +kernel
theorem dX5_bag_65 : decode cX5_bag 65 = .ok (.ireturn, 1) := by decide +kernel
theorem dX5_bag_66 : decode cX5_bag 66 = .ok (.aload_n 3, 1) := by decide +kernel
theorem dX5_bag_67 : decode cX5_bag 67 = .ok (.getfield 178, 3) := by decide +kernel
theorem dX5_bag_70 : decode cX5_bag 70 = .ok (.iload_n 1, 1) := by decide +kernel
theorem dX5_bag_71 : decode cX5_bag 71 = .ok (.iaload, 1) := by decide +kernel
theorem dX5_bag_72 : decode cX5_bag 72 = .ok (.ireturn, 1) := by decide +kernel
theorem dX5_bag_73 : decode cX5_bag 73 = .ok (.aload_n 3, 1) := by decide +kernel
theorem dX5_bag_74 : decode cX5_bag 74 = .ok (.getfield 181, 3) := by decide +kernel
theorem dX5_bag_77 : decode cX5_bag 77 = .ok (.iload_n 1, 1) := by decide +kernel
theorem dX5_bag_78 : decode cX5_bag 78 = .ok (.iaload, 1) := by decide +kernel
theorem dX5_bag_79 : decode cX5_bag 79 = .ok (.ireturn, 1) := by decide +kernel
theorem dX5_got_0 : decode cX5_got 0 = .ok (.iload_n 1, 1) := by decide +kernel
theorem dX5_got_1 : decode cX5_got 1 = .ok (.invokestatic 117, 3) := by decide +kernel
theorem dX5_got_4 : decode cX5_got 4 = .ok (.ifCond .eq 20, 3) := by decide +kernel
theorem dX5_got_7 : decode cX5_got 7 = .ok (.aload_n 0, 1) := by decide +kernel
theorem dX5_got_8 : decode cX5_got 8 = .ok (.iload_n 2, 1) := by decide +kernel
theorem dX5_got_9 : decode cX5_got 9 = .ok (.invokevirtual 91, 3) := by decide +kernel
theorem dX5_got_12 : decode cX5_got 12 = .ok (.ifCond .eq 12, 3) := by decide +kernel
theorem dX5_got_15 : decode cX5_got 15 = .ok (.iload_n 3, 1) := by decide +kernel
theorem dX5_got_16 : decode cX5_got 16 = .ok (.iconst 0, 1) := by decide +kernel
theorem dX5_got_17 : decode cX5_got 17 = .ok (.iconst 2, 1) := by decide +kernel
theorem dX5_got_18 : decode cX5_got 18 = .ok (.invokestatic 66, 3) := by decide +kernel
theorem dX5_got_21 : decode cX5_got 21 = .ok (.ifCond .ne 6, 3) := by decide +kernel
theorem dX5_got_24 : decode cX5_got 24 = .ok (.bipush (-2), 2) := by decide +kernel
theorem dX5_got_26 : decode cX5_got 26 = .ok (.ireturn, 1) := by decide +kernel
theorem dX5_got_27 : decode cX5_got 27 = .ok (.iload_n 3, 1) := by decide +kernel
theorem dX5_got_28 : decode cX5_got 28 = .ok (.ifCond .ne 13, 3) := by decide +kernel
theorem dX5_got_31 : decode cX5_got 31 = .ok (.aload_n 0, 1) := by decide +kernel
theorem dX5_got_32 : decode cX5_got 32 = .ok (.invokevirtual 168, 3) := by decide +kernel
theorem dX5_got_35 : decode cX5_got 35 = .ok (.iload_n 1, 1) := by decide +kernel
theorem dX5_got_36 : decode cX5_got 36 = .ok (.iload_n 2, 1) := by decide +kernel
theorem dX5_got_37 : decode cX5_got 37 = .ok (.invokevirtual 184, 3) := by decide +kernel
theorem dX5_got_40 : decode cX5_got 40 = .ok (.ireturn, 1) := by decide +kernel
theorem dX5_got_41 : decode cX5_got 41 = .ok (.aload_n 0, 1) := by decide +kernel
theorem dX5_got_42 : decode cX5_got 42 = .ok (.getfield 26, 3) := by decide +kernel
theorem dX5_got_45 : decode cX5_got 45 = .ok (.getfield 95, 3) := by decide +kernel
theorem dX5_got_48 : decode cX5_got 48 = .ok (.getfield 187, 3) := by decide +kernel
theorem dX5_got_51 : decode cX5_got 51 = .ok (.iload_n 1, 1) := by decide +kernel
theorem dX5_got_52 : decode cX5_got 52 = .ok (.bipush 8, 2) := by decide +kernel
theorem dX5_got_54 : decode cX5_got 54 = .ok (.imul, 1) := by decide +kernel
theorem dX5_got_55 : decode cX5_got 55 = .ok (.iload_n 2, 1) := by decide +kernel
theorem dX5_got_56 : decode cX5_got 56 = .ok (.iadd, 1) := by decide +kernel
theorem dX5_got_57 : decode cX5_got 57 = .ok (.iaload, 1) := by decide +kernel
theorem dX5_got_58 : decode cX5_got 58 = .ok (.istore 4, 2) := by decide +kernel
theorem dX5_got_60 : decode cX5_got 60 = .ok (.iload_n 3, 1) := by decide +kernel
theorem dX5_got_61 : decode cX5_got 61 = .ok (.iconst 1, 1) := by decide +kernel
theorem dX5_got_62 : decode cX5_got 62 = .ok (.if_icmp .ne 11, 3) := by decide +kernel
theorem dX5_got_65 : decode cX5_got 65 = .ok (.iload 4, 2) := by decide +kernel
theorem dX5_got_67 : decode cX5_got 67 = .ok (.invokestatic 190, 3) := by decide +kernel
theorem dX5_got_70 : decode cX5_got 70 = .ok (.goto 5, 3) := by decide +kernel
theorem dX5_got_73 : decode cX5_got 73 = .ok (.iload 4, 2) := by decide +kernel
theorem dX5_got_75 : decode cX5_got 75 = .ok (.ireturn, 1) := by decide +kernel
theorem dX5_held_0 : decode cX5_held 0 = .ok (.aload_n 0, 1) := by decide +kernel
theorem dX5_held_1 : decode cX5_held 1 = .ok (.iload_n 1, 1) := by decide +kernel
theorem dX5_held_2 : decode cX5_held 2 = .ok (.invokevirtual 91, 3) := by decide +kernel
theorem dX5_held_5 : decode cX5_held 5 = .ok (.ifCond .eq 12, 3) := by decide +kernel
theorem dX5_held_8 : decode cX5_held 8 = .ok (.iload_n 2, 1) := by decide +kernel
theorem dX5_held_9 : decode cX5_held 9 = .ok (.iconst 0, 1) := by decide +kernel
theorem dX5_held_10 : decode cX5_held 10 = .ok (.iconst 1, 1) := by decide +kernel
theorem dX5_held_11 : decode cX5_held 11 = .ok (.invokestatic 66, 3) := by decide +kernel
theorem dX5_held_14 : decode cX5_held 14 = .ok (.ifCond .ne 6, 3) := by decide +kernel
theorem dX5_held_17 : decode cX5_held 17 = .ok (.bipush (-2), 2) := by decide +kernel
theorem dX5_held_19 : decode cX5_held 19 = .ok (.ireturn, 1) := by decide +kernel
theorem dX5_held_20 : decode cX5_held 20 = .ok (.aload_n 0, 1) := by decide +kernel
theorem dX5_held_21 : decode cX5_held 21 = .ok (.invokevirtual 168, 3) := by decide +kernel
theorem dX5_held_24 : decode cX5_held 24 = .ok (.astore_n 3, 1) := by decide +kernel
theorem dX5_held_25 : decode cX5_held 25 = .ok (.iload_n 2, 1) := by decide +kernel
theorem dX5_held_26 : decode cX5_held 26 = .ok (.ifCond .ne 13, 3) := by decide +kernel
theorem dX5_held_29 : decode cX5_held 29 = .ok (.aload_n 3, 1) := by decide +kernel
theorem dX5_held_30 : decode cX5_held 30 = .ok (.iconst 1, 1) := by decide +kernel
theorem dX5_held_31 : decode cX5_held 31 = .ok (.iload_n 1, 1) := by decide +kernel
theorem dX5_held_32 : decode cX5_held 32 = .ok (.ishl, 1) := by decide +kernel
theorem dX5_held_33 : decode cX5_held 33 = .ok (.invokevirtual 193, 3) := by decide +kernel
theorem dX5_held_36 : decode cX5_held 36 = .ok (.goto 8, 3) := by decide +kernel
theorem dX5_held_39 : decode cX5_held 39 = .ok (.aload_n 3, 1) := by decide +kernel
theorem dX5_held_40 : decode cX5_held 40 = .ok (.iload_n 1, 1) := by decide +kernel
theorem dX5_held_41 : decode cX5_held 41 = .ok (.invokevirtual 196, 3) := by decide +kernel
theorem dX5_held_44 : decode cX5_held 44 = .ok (.ireturn, 1) := by decide +kernel
theorem dX5_first_0 : decode cX5_first 0 = .ok (.aload_n 0, 1) := by decide +kernel
theorem dX5_first_1 : decode cX5_first 1 = .ok (.invokevirtual 168, 3) := by decide +kernel
theorem dX5_first_4 : decode cX5_first 4 = .ok (.iconst (-1), 1) := by decide +kernel
theorem dX5_first_5 : decode cX5_first 5 = .ok (.invokevirtual 193, 3) := by decide +kernel
theorem dX5_first_8 : decode cX5_first 8 = .ok (.ireturn, 1) := by decide +kernel
theorem dX5_quiet_0 : decode cX5_quiet 0 = .ok (.aload_n 0, 1) := by decide +kernel
theorem dX5_quiet_1 : decode cX5_quiet 1 = .ok (.invokevirtual 168, 3) := by decide +kernel
theorem dX5_quiet_4 : decode cX5_quiet 4 = .ok (.astore_n 1, 1) := by decide +kernel
theorem dX5_quiet_5 : decode cX5_quiet 5 = .ok (.iconst 0, 1) := by decide +kernel
theorem dX5_quiet_6 : decode cX5_quiet 6 = .ok (.istore_n 2, 1) := by decide +kernel
theorem dX5_quiet_7 : decode cX5_quiet 7 = .ok (.iload_n 2, 1) := by decide +kernel
theorem dX5_quiet_8 : decode cX5_quiet 8 = .ok (.bipush 40, 2) := by decide +kernel
theorem dX5_quiet_10 : decode cX5_quiet 10 = .ok (.if_icmp .ge 20, 3) := by decide +kernel
theorem dX5_quiet_13 : decode cX5_quiet 13 = .ok (.aload_n 1, 1) := by decide +kernel
theorem dX5_quiet_14 : decode cX5_quiet 14 = .ok (.getfield 172, 3) := by decide +kernel
theorem dX5_quiet_17 : decode cX5_quiet 17 = .ok (.iload_n 2, 1) := by decide +kernel
theorem dX5_quiet_18 : decode cX5_quiet 18 = .ok (.iaload, 1) := by decide +kernel
theorem dX5_quiet_19 : decode cX5_quiet 19 = .ok (.ifCond .ne 5, 3) := by decide +kernel
theorem dX5_quiet_22 : decode cX5_quiet 22 = .ok (.iload_n 2, 1) := by decide +kernel
theorem dX5_quiet_23 : decode cX5_quiet 23 = .ok (.ireturn, 1) := by decide +kernel
theorem dX5_quiet_24 : decode cX5_quiet 24 = .ok (.iinc 2 1, 3) := by decide +kernel
theorem dX5_quiet_27 : decode cX5_quiet 27 = .ok (.goto (-20), 3) := by decide +kernel
theorem dX5_quiet_30 : decode cX5_quiet 30 = .ok (.iconst (-1), 1) := by decide +kernel
theorem dX5_quiet_31 : decode cX5_quiet 31 = .ok (.ireturn, 1) := by decide +kernel
theorem dX5_well_0 : decode cX5_well 0 = .ok (.aload_n 0, 1) := by decide +kernel
theorem dX5_well_1 : decode cX5_well 1 = .ok (.invokevirtual 168, 3) := by decide +kernel
theorem dX5_well_4 : decode cX5_well 4 = .ok (.astore_n 1, 1) := by decide +kernel
theorem dX5_well_5 : decode cX5_well 5 = .ok (.iconst 0, 1) := by decide +kernel
theorem dX5_well_6 : decode cX5_well 6 = .ok (.istore_n 2, 1) := by decide +kernel
theorem dX5_well_7 : decode cX5_well 7 = .ok (.iconst 0, 1) := by decide +kernel
theorem dX5_well_8 : decode cX5_well 8 = .ok (.istore_n 3, 1) := by decide +kernel
theorem dX5_well_9 : decode cX5_well 9 = .ok (.iload_n 3, 1) := by decide +kernel
theorem dX5_well_10 : decode cX5_well 10 = .ok (.bipush 40, 2) := by decide +kernel
theorem dX5_well_12 : decode cX5_well 12 = .ok (.if_icmp .ge 21, 3) := by decide +kernel
theorem dX5_well_15 : decode cX5_well 15 = .ok (.aload_n 1, 1) := by decide +kernel
theorem dX5_well_16 : decode cX5_well 16 = .ok (.getfield 181, 3) := by decide +kernel
theorem dX5_well_19 : decode cX5_well 19 = .ok (.iload_n 3, 1) := by decide +kernel
theorem dX5_well_20 : decode cX5_well 20 = .ok (.iaload, 1) := by decide +kernel
theorem dX5_well_21 : decode cX5_well 21 = .ok (.ifCond .ne 6, 3) := by decide +kernel
theorem dX5_well_24 : decode cX5_well 24 = .ok (.iinc 2 1, 3) := by decide +kernel
theorem dX5_well_27 : decode cX5_well 27 = .ok (.iinc 3 1, 3) := by decide +kernel
theorem dX5_well_30 : decode cX5_well 30 = .ok (.goto (-21), 3) := by decide +kernel
theorem dX5_well_33 : decode cX5_well 33 = .ok (.iload_n 2, 1) := by decide +kernel
theorem dX5_well_34 : decode cX5_well 34 = .ok (.ireturn, 1) := by decide +kernel
theorem dX5_elbow_0 : decode cX5_elbow 0 = .ok (.iload_n 1, 1) := by decide +kernel
theorem dX5_elbow_1 : decode cX5_elbow 1 = .ok (.iconst 0, 1) := by decide +kernel
theorem dX5_elbow_2 : decode cX5_elbow 2 = .ok (.iconst 1, 1) := by decide +kernel
theorem dX5_elbow_3 : decode cX5_elbow 3 = .ok (.invokestatic 66, 3) := by decide +kernel
theorem dX5_elbow_6 : decode cX5_elbow 6 = .ok (.ifCond .eq 14, 3) := by decide +kernel
theorem dX5_elbow_9 : decode cX5_elbow 9 = .ok (.aload_n 0, 1) := by decide +kernel
theorem dX5_elbow_10 : decode cX5_elbow 10 = .ok (.invokevirtual 199, 3) := by decide +kernel
theorem dX5_elbow_13 : decode cX5_elbow 13 = .ok (.iload_n 1, 1) := by decide +kernel
theorem dX5_elbow_14 : decode cX5_elbow 14 = .ok (.invokestatic 203, 3) := by decide +kernel
theorem dX5_elbow_17 : decode cX5_elbow 17 = .ok (.goto 5, 3) := by decide +kernel
theorem dX5_elbow_20 : decode cX5_elbow 20 = .ok (.bipush (-2), 2) := by decide +kernel
theorem dX5_elbow_22 : decode cX5_elbow 22 = .ok (.ireturn, 1) := by decide +kernel
theorem dX5_shut_0 : decode cX5_shut 0 = .ok (.aload_n 0, 1) := by decide +kernel
theorem dX5_shut_1 : decode cX5_shut 1 = .ok (.iload_n 1, 1) := by decide +kernel
theorem dX5_shut_2 : decode cX5_shut 2 = .ok (.invokevirtual 91, 3) := by decide +kernel
theorem dX5_shut_5 : decode cX5_shut 5 = .ok (.ifCond .eq 24, 3) := by decide +kernel
theorem dX5_shut_8 : decode cX5_shut 8 = .ok (.iload_n 2, 1) := by decide +kernel
theorem dX5_shut_9 : decode cX5_shut 9 = .ok (.iconst 0, 1) := by decide +kernel
theorem dX5_shut_10 : decode cX5_shut 10 = .ok (.iconst 1, 1) := by decide +kernel
theorem dX5_shut_11 : decode cX5_shut 11 = .ok (.invokestatic 66, 3) := by decide +kernel
theorem dX5_shut_14 : decode cX5_shut 14 = .ok (.ifCond .eq 15, 3) := by decide +kernel
theorem dX5_shut_17 : decode cX5_shut 17 = .ok (.aload_n 0, 1) := by decide +kernel
theorem dX5_shut_18 : decode cX5_shut 18 = .ok (.iload_n 1, 1) := by decide +kernel
theorem dX5_shut_19 : decode cX5_shut 19 = .ok (.invokevirtual 206, 3) := by decide +kernel
theorem dX5_shut_22 : decode cX5_shut 22 = .ok (.iload_n 2, 1) := by decide +kernel
theorem dX5_shut_23 : decode cX5_shut 23 = .ok (.invokestatic 203, 3) := by decide +kernel
theorem dX5_shut_26 : decode cX5_shut 26 = .ok (.goto 5, 3) := by decide +kernel
theorem dX5_shut_29 : decode cX5_shut 29 = .ok (.bipush (-2), 2) := by decide +kernel
theorem dX5_shut_31 : decode cX5_shut 31 = .ok (.ireturn, 1) := by decide +kernel
theorem dX5_least_0 : decode cX5_least 0 = .ok (.aload_n 0, 1) := by decide +kernel
theorem dX5_least_1 : decode cX5_least 1 = .ok (.getfield 26, 3) := by decide +kernel
theorem dX5_least_4 : decode cX5_least 4 = .ok (.getfield 123, 3) := by decide +kernel
theorem dX5_least_7 : decode cX5_least 7 = .ok (.istore_n 1, 1) := by decide +kernel
theorem dX5_least_8 : decode cX5_least 8 = .ok (.iconst (-1), 1) := by decide +kernel
theorem dX5_least_9 : decode cX5_least 9 = .ok (.istore_n 2, 1) := by decide +kernel
theorem dX5_least_10 : decode cX5_least 10 = .ok (.iconst 0, 1) := by decide +kernel
theorem dX5_least_11 : decode cX5_least 11 = .ok (.istore_n 3, 1) := by decide +kernel
theorem dX5_least_12 : decode cX5_least 12 = .ok (.iload_n 3, 1) := by decide +kernel
theorem dX5_least_13 : decode cX5_least 13 = .ok (.bipush 60, 2) := by decide +kernel
theorem dX5_least_15 : decode cX5_least 15 = .ok (.if_icmp .gt 47, 3) := by decide +kernel
theorem dX5_least_18 : decode cX5_least 18 = .ok (.iload_n 2, 1) := by decide +kernel
theorem dX5_least_19 : decode cX5_least 19 = .ok (.iconst (-1), 1) := by decide +kernel
theorem dX5_least_20 : decode cX5_least 20 = .ok (.if_icmp .ne 42, 3) := by decide +kernel
theorem dX5_least_23 : decode cX5_least 23 = .ok (.aload_n 0, 1) := by decide +kernel
theorem dX5_least_24 : decode cX5_least 24 = .ok (.getfield 26, 3) := by decide +kernel
theorem dX5_least_27 : decode cX5_least 27 = .ok (.iload_n 3, 1) := by decide +kernel
theorem dX5_least_28 : decode cX5_least 28 = .ok (.putfield 123, 3) := by decide +kernel
theorem dX5_least_31 : decode cX5_least 31 = .ok (.aload_n 0, 1) := by decide +kernel
theorem dX5_least_32 : decode cX5_least 32 = .ok (.getfield 37, 3) := by decide +kernel
theorem dX5_least_35 : decode cX5_least 35 = .ok (.aload_n 0, 1) := by decide +kernel
theorem dX5_least_36 : decode cX5_least 36 = .ok (.getfield 26, 3) := by decide +kernel
theorem dX5_least_39 : decode cX5_least 39 = .ok (.invokevirtual 209, 3) := by decide +kernel
theorem dX5_least_42 : decode cX5_least 42 = .ok (.aload_n 0, 1) := by decide +kernel
theorem dX5_least_43 : decode cX5_least 43 = .ok (.getfield 37, 3) := by decide +kernel
theorem dX5_least_46 : decode cX5_least 46 = .ok (.iconst (-1), 1) := by decide +kernel
theorem dX5_least_47 : decode cX5_least 47 = .ok (.invokevirtual 193, 3) := by decide +kernel
theorem dX5_least_50 : decode cX5_least 50 = .ok (.iconst (-1), 1) := by decide +kernel
theorem dX5_least_51 : decode cX5_least 51 = .ok (.if_icmp .ne 5, 3) := by decide +kernel
theorem dX5_least_54 : decode cX5_least 54 = .ok (.iload_n 3, 1) := by decide +kernel
theorem dX5_least_55 : decode cX5_least 55 = .ok (.istore_n 2, 1) := by decide +kernel
theorem dX5_least_56 : decode cX5_least 56 = .ok (.iinc 3 1, 3) := by decide +kernel
theorem dX5_least_59 : decode cX5_least 59 = .ok (.goto (-47), 3) := by decide +kernel
theorem dX5_least_62 : decode cX5_least 62 = .ok (.aload_n 0, 1) := by decide +kernel
theorem dX5_least_63 : decode cX5_least 63 = .ok (.getfield 26, 3) := by decide +kernel
theorem dX5_least_66 : decode cX5_least 66 = .ok (.iload_n 1, 1) := by decide +kernel
theorem dX5_least_67 : decode cX5_least 67 = .ok (.putfield 123, 3) := by decide +kernel
theorem dX5_least_70 : decode cX5_least 70 = .ok (.iload_n 2, 1) := by decide +kernel
theorem dX5_least_71 : decode cX5_least 71 = .ok (.ireturn, 1) := by decide +kernel
theorem dX5_patch_0 : decode cX5_patch 0 = .ok (.iload_n 1, 1) := by decide +kernel
theorem dX5_patch_1 : decode cX5_patch 1 = .ok (.iconst 0, 1) := by decide +kernel
theorem dX5_patch_2 : decode cX5_patch 2 = .ok (.iconst 1, 1) := by decide +kernel
theorem dX5_patch_3 : decode cX5_patch 3 = .ok (.invokestatic 66, 3) := by decide +kernel
theorem dX5_patch_6 : decode cX5_patch 6 = .ok (.ifCond .eq 14, 3) := by decide +kernel
theorem dX5_patch_9 : decode cX5_patch 9 = .ok (.aload_n 0, 1) := by decide +kernel
theorem dX5_patch_10 : decode cX5_patch 10 = .ok (.invokevirtual 213, 3) := by decide +kernel
theorem dX5_patch_13 : decode cX5_patch 13 = .ok (.iload_n 1, 1) := by decide +kernel
theorem dX5_patch_14 : decode cX5_patch 14 = .ok (.invokestatic 203, 3) := by decide +kernel
theorem dX5_patch_17 : decode cX5_patch 17 = .ok (.goto 5, 3) := by decide +kernel
theorem dX5_patch_20 : decode cX5_patch 20 = .ok (.bipush (-2), 2) := by decide +kernel
theorem dX5_patch_22 : decode cX5_patch 22 = .ok (.ireturn, 1) := by decide +kernel
theorem dX5_seen_0 : decode cX5_seen 0 = .ok (.iload_n 1, 1) := by decide +kernel
theorem dX5_seen_1 : decode cX5_seen 1 = .ok (.invokestatic 117, 3) := by decide +kernel
theorem dX5_seen_4 : decode cX5_seen 4 = .ok (.ifCond .eq 22, 3) := by decide +kernel
theorem dX5_seen_7 : decode cX5_seen 7 = .ok (.iload_n 2, 1) := by decide +kernel
theorem dX5_seen_8 : decode cX5_seen 8 = .ok (.iconst 0, 1) := by decide +kernel
theorem dX5_seen_9 : decode cX5_seen 9 = .ok (.bipush 7, 2) := by decide +kernel
theorem dX5_seen_11 : decode cX5_seen 11 = .ok (.invokestatic 66, 3) := by decide +kernel
theorem dX5_seen_14 : decode cX5_seen 14 = .ok (.ifCond .eq 12, 3) := by decide +kernel
theorem dX5_seen_17 : decode cX5_seen 17 = .ok (.iload_n 3, 1) := by decide +kernel
theorem dX5_seen_18 : decode cX5_seen 18 = .ok (.iconst 0, 1) := by decide +kernel
theorem dX5_seen_19 : decode cX5_seen 19 = .ok (.iconst 4, 1) := by decide +kernel
theorem dX5_seen_20 : decode cX5_seen 20 = .ok (.invokestatic 66, 3) := by decide +kernel
theorem dX5_seen_23 : decode cX5_seen 23 = .ok (.ifCond .ne 6, 3) := by decide +kernel
theorem dX5_seen_26 : decode cX5_seen 26 = .ok (.bipush (-2), 2) := by decide +kernel
theorem dX5_seen_28 : decode cX5_seen 28 = .ok (.ireturn, 1) := by decide +kernel
theorem dX5_seen_29 : decode cX5_seen 29 = .ok (.aload_n 0, 1) := by decide +kernel
theorem dX5_seen_30 : decode cX5_seen 30 = .ok (.getfield 216, 3) := by decide +kernel
theorem dX5_seen_33 : decode cX5_seen 33 = .ok (.bipush 8, 2) := by decide +kernel
theorem dX5_seen_35 : decode cX5_seen 35 = .ok (.if_icmp .lt 6, 3) := by decide +kernel
theorem dX5_seen_38 : decode cX5_seen 38 = .ok (.bipush (-4), 2) := by decide +kernel
theorem dX5_seen_40 : decode cX5_seen 40 = .ok (.ireturn, 1) := by decide +kernel
theorem dX5_seen_41 : decode cX5_seen 41 = .ok (.aload_n 0, 1) := by decide +kernel
theorem dX5_seen_42 : decode cX5_seen 42 = .ok (.getfield 50, 3) := by decide +kernel
theorem dX5_seen_45 : decode cX5_seen 45 = .ok (.aload_n 0, 1) := by decide +kernel
theorem dX5_seen_46 : decode cX5_seen 46 = .ok (.getfield 216, 3) := by decide +kernel
theorem dX5_seen_49 : decode cX5_seen 49 = .ok (.iload_n 1, 1) := by decide +kernel
theorem dX5_seen_50 : decode cX5_seen 50 = .ok (.iastore, 1) := by decide +kernel
theorem dX5_seen_51 : decode cX5_seen 51 = .ok (.aload_n 0, 1) := by decide +kernel
theorem dX5_seen_52 : decode cX5_seen 52 = .ok (.getfield 53, 3) := by decide +kernel
theorem dX5_seen_55 : decode cX5_seen 55 = .ok (.aload_n 0, 1) := by decide +kernel
theorem dX5_seen_56 : decode cX5_seen 56 = .ok (.getfield 216, 3) := by decide +kernel
theorem dX5_seen_59 : decode cX5_seen 59 = .ok (.iload_n 2, 1) := by decide +kernel
theorem dX5_seen_60 : decode cX5_seen 60 = .ok (.iastore, 1) := by decide +kernel
theorem dX5_seen_61 : decode cX5_seen 61 = .ok (.aload_n 0, 1) := by decide +kernel
theorem dX5_seen_62 : decode cX5_seen 62 = .ok (.getfield 56, 3) := by decide +kernel
theorem dX5_seen_65 : decode cX5_seen 65 = .ok (.aload_n 0, 1) := by decide +kernel
theorem dX5_seen_66 : decode cX5_seen 66 = .ok (.getfield 216, 3) := by decide +kernel
theorem dX5_seen_69 : decode cX5_seen 69 = .ok (.iload_n 3, 1) := by decide +kernel
theorem dX5_seen_70 : decode cX5_seen 70 = .ok (.iastore, 1) := by decide +kernel
theorem dX5_seen_71 : decode cX5_seen 71 = .ok (.aload_n 0, 1) := by decide +kernel
theorem dX5_seen_72 : decode cX5_seen 72 = .ok (.dup, 1) := by decide +kernel
theorem dX5_seen_73 : decode cX5_seen 73 = .ok (.getfield 216, 3) := by decide +kernel
theorem dX5_seen_76 : decode cX5_seen 76 = .ok (.iconst 1, 1) := by decide +kernel
theorem dX5_seen_77 : decode cX5_seen 77 = .ok (.iadd, 1) := by decide +kernel
theorem dX5_seen_78 : decode cX5_seen 78 = .ok (.putfield 216, 3) := by decide +kernel
theorem dX5_seen_81 : decode cX5_seen 81 = .ok (.aload_n 0, 1) := by decide +kernel
theorem dX5_seen_82 : decode cX5_seen 82 = .ok (.getfield 216, 3) := by decide +kernel
theorem dX5_seen_85 : decode cX5_seen 85 = .ok (.ireturn, 1) := by decide +kernel
theorem dX5_forget_0 : decode cX5_forget 0 = .ok (.aload_n 0, 1) := by decide +kernel
theorem dX5_forget_1 : decode cX5_forget 1 = .ok (.getfield 216, 3) := by decide +kernel
theorem dX5_forget_4 : decode cX5_forget 4 = .ok (.istore_n 1, 1) := by decide +kernel
theorem dX5_forget_5 : decode cX5_forget 5 = .ok (.aload_n 0, 1) := by decide +kernel
theorem dX5_forget_6 : decode cX5_forget 6 = .ok (.iconst 0, 1) := by decide +kernel
theorem dX5_forget_7 : decode cX5_forget 7 = .ok (.putfield 216, 3) := by decide +kernel
theorem dX5_forget_10 : decode cX5_forget 10 = .ok (.iload_n 1, 1) := by decide +kernel
theorem dX5_forget_11 : decode cX5_forget 11 = .ok (.ireturn, 1) := by decide +kernel
theorem dX5_never_0 : decode cX5_never 0 = .ok (.iconst 0, 1) := by decide +kernel
theorem dX5_never_1 : decode cX5_never 1 = .ok (.istore_n 1, 1) := by decide +kernel
theorem dX5_never_2 : decode cX5_never 2 = .ok (.iconst 0, 1) := by decide +kernel
theorem dX5_never_3 : decode cX5_never 3 = .ok (.istore_n 2, 1) := by decide +kernel
theorem dX5_never_4 : decode cX5_never 4 = .ok (.iload_n 2, 1) := by decide +kernel
theorem dX5_never_5 : decode cX5_never 5 = .ok (.aload_n 0, 1) := by decide +kernel
theorem dX5_never_6 : decode cX5_never 6 = .ok (.getfield 26, 3) := by decide +kernel
theorem dX5_never_9 : decode cX5_never 9 = .ok (.getfield 146, 3) := by decide +kernel
theorem dX5_never_12 : decode cX5_never 12 = .ok (.if_icmp .ge 49, 3) := by decide +kernel
theorem dX5_never_15 : decode cX5_never 15 = .ok (.aload_n 0, 1) := by decide +kernel
theorem dX5_never_16 : decode cX5_never 16 = .ok (.getfield 26, 3) := by decide +kernel
theorem dX5_never_19 : decode cX5_never 19 = .ok (.iconst (-1), 1) := by decide +kernel
theorem dX5_never_20 : decode cX5_never 20 = .ok (.iconst 1, 1) := by decide +kernel
theorem dX5_never_21 : decode cX5_never 21 = .ok (.iload_n 2, 1) := by decide +kernel
theorem dX5_never_22 : decode cX5_never 22 = .ok (.ishl, 1) := by decide +kernel
theorem dX5_never_23 : decode cX5_never 23 = .ok (.ixor, 1) := by decide +kernel
theorem dX5_never_24 : decode cX5_never 24 = .ok (.putfield 219, 3) := by decide +kernel
theorem dX5_never_27 : decode cX5_never 27 = .ok (.aload_n 0, 1) := by decide +kernel
theorem dX5_never_28 : decode cX5_never 28 = .ok (.getfield 37, 3) := by decide +kernel
theorem dX5_never_31 : decode cX5_never 31 = .ok (.aload_n 0, 1) := by decide +kernel
theorem dX5_never_32 : decode cX5_never 32 = .ok (.getfield 26, 3) := by decide +kernel
theorem dX5_never_35 : decode cX5_never 35 = .ok (.invokevirtual 209, 3) := by decide +kernel
theorem dX5_never_38 : decode cX5_never 38 = .ok (.aload_n 0, 1) := by decide +kernel
theorem dX5_never_39 : decode cX5_never 39 = .ok (.aload_n 0, 1) := by decide +kernel
theorem dX5_never_40 : decode cX5_never 40 = .ok (.getfield 37, 3) := by decide +kernel
theorem dX5_never_43 : decode cX5_never 43 = .ok (.invokevirtual 222, 3) := by decide +kernel
theorem dX5_never_46 : decode cX5_never 46 = .ok (.ifCond .eq 9, 3) := by decide +kernel
theorem dX5_never_49 : decode cX5_never 49 = .ok (.iload_n 1, 1) := by decide +kernel
theorem dX5_never_50 : decode cX5_never 50 = .ok (.iconst 1, 1) := by decide +kernel
theorem dX5_never_51 : decode cX5_never 51 = .ok (.iload_n 2, 1) := by decide +kernel
theorem dX5_never_52 : decode cX5_never 52 = .ok (.ishl, 1) := by decide +kernel
theorem dX5_never_53 : decode cX5_never 53 = .ok (.ior, 1) := by decide +kernel
theorem dX5_never_54 : decode cX5_never 54 = .ok (.istore_n 1, 1) := by decide +kernel
theorem dX5_never_55 : decode cX5_never 55 = .ok (.iinc 2 1, 3) := by decide +kernel
theorem dX5_never_58 : decode cX5_never 58 = .ok (.goto (-54), 3) := by decide +kernel
theorem dX5_never_61 : decode cX5_never 61 = .ok (.aload_n 0, 1) := by decide +kernel
theorem dX5_never_62 : decode cX5_never 62 = .ok (.getfield 26, 3) := by decide +kernel
theorem dX5_never_65 : decode cX5_never 65 = .ok (.iconst (-1), 1) := by decide +kernel
theorem dX5_never_66 : decode cX5_never 66 = .ok (.putfield 219, 3) := by decide +kernel
theorem dX5_never_69 : decode cX5_never 69 = .ok (.iload_n 1, 1) := by decide +kernel
theorem dX5_never_70 : decode cX5_never 70 = .ok (.ireturn, 1) := by decide +kernel
theorem dX5_was_0 : decode cX5_was 0 = .ok (.aload_n 0, 1) := by decide +kernel
theorem dX5_was_1 : decode cX5_was 1 = .ok (.iload_n 1, 1) := by decide +kernel
theorem dX5_was_2 : decode cX5_was 2 = .ok (.invokevirtual 91, 3) := by decide +kernel
theorem dX5_was_5 : decode cX5_was 5 = .ok (.ifCond .ne 6, 3) := by decide +kernel
theorem dX5_was_8 : decode cX5_was 8 = .ok (.bipush (-2), 2) := by decide +kernel
theorem dX5_was_10 : decode cX5_was 10 = .ok (.ireturn, 1) := by decide +kernel
theorem dX5_was_11 : decode cX5_was 11 = .ok (.iconst 0, 1) := by decide +kernel
theorem dX5_was_12 : decode cX5_was 12 = .ok (.istore_n 2, 1) := by decide +kernel
theorem dX5_was_13 : decode cX5_was 13 = .ok (.iconst 1, 1) := by decide +kernel
theorem dX5_was_14 : decode cX5_was 14 = .ok (.istore_n 3, 1) := by decide +kernel
theorem dX5_was_15 : decode cX5_was 15 = .ok (.iload_n 3, 1) := by decide +kernel
theorem dX5_was_16 : decode cX5_was 16 = .ok (.bipush 9, 2) := by decide +kernel
theorem dX5_was_18 : decode cX5_was 18 = .ok (.if_icmp .gt 32, 3) := by decide +kernel
theorem dX5_was_21 : decode cX5_was 21 = .ok (.aload_n 0, 1) := by decide +kernel
theorem dX5_was_22 : decode cX5_was 22 = .ok (.iload_n 1, 1) := by decide +kernel
theorem dX5_was_23 : decode cX5_was 23 = .ok (.iload_n 3, 1) := by decide +kernel
theorem dX5_was_24 : decode cX5_was 24 = .ok (.invokevirtual 226, 3) := by decide +kernel
theorem dX5_was_27 : decode cX5_was 27 = .ok (.aload_n 0, 1) := by decide +kernel
theorem dX5_was_28 : decode cX5_was 28 = .ok (.aload_n 0, 1) := by decide +kernel
theorem dX5_was_29 : decode cX5_was 29 = .ok (.getfield 37, 3) := by decide +kernel
theorem dX5_was_32 : decode cX5_was 32 = .ok (.invokevirtual 222, 3) := by decide +kernel
theorem dX5_was_35 : decode cX5_was 35 = .ok (.ifCond .eq 9, 3) := by decide +kernel
theorem dX5_was_38 : decode cX5_was 38 = .ok (.iload_n 2, 1) := by decide +kernel
theorem dX5_was_39 : decode cX5_was 39 = .ok (.iconst 1, 1) := by decide +kernel
theorem dX5_was_40 : decode cX5_was 40 = .ok (.iload_n 3, 1) := by decide +kernel
theorem dX5_was_41 : decode cX5_was 41 = .ok (.ishl, 1) := by decide +kernel
theorem dX5_was_42 : decode cX5_was 42 = .ok (.ior, 1) := by decide +kernel
theorem dX5_was_43 : decode cX5_was 43 = .ok (.istore_n 2, 1) := by decide +kernel
theorem dX5_was_44 : decode cX5_was 44 = .ok (.iinc 3 1, 3) := by decide +kernel
theorem dX5_was_47 : decode cX5_was 47 = .ok (.goto (-32), 3) := by decide +kernel
theorem dX5_was_50 : decode cX5_was 50 = .ok (.iload_n 2, 1) := by decide +kernel
theorem dX5_was_51 : decode cX5_was 51 = .ok (.ireturn, 1) := by decide +kernel
theorem dX5_starts_0 : decode cX5_starts 0 = .ok (.iload_n 1, 1) := by decide +kernel
theorem dX5_starts_1 : decode cX5_starts 1 = .ok (.iconst 0, 1) := by decide +kernel
theorem dX5_starts_2 : decode cX5_starts 2 = .ok (.iconst 2, 1) := by decide +kernel
theorem dX5_starts_3 : decode cX5_starts 3 = .ok (.invokestatic 66, 3) := by decide +kernel
theorem dX5_starts_6 : decode cX5_starts 6 = .ok (.ifCond .eq 14, 3) := by decide +kernel
theorem dX5_starts_9 : decode cX5_starts 9 = .ok (.aload_n 0, 1) := by decide +kernel
theorem dX5_starts_10 : decode cX5_starts 10 = .ok (.invokevirtual 229, 3) := by decide +kernel
theorem dX5_starts_13 : decode cX5_starts 13 = .ok (.iload_n 1, 1) := by decide +kernel
theorem dX5_starts_14 : decode cX5_starts 14 = .ok (.invokestatic 233, 3) := by decide +kernel
theorem dX5_starts_17 : decode cX5_starts 17 = .ok (.goto 5, 3) := by decide +kernel
theorem dX5_starts_20 : decode cX5_starts 20 = .ok (.bipush (-2), 2) := by decide +kernel
theorem dX5_starts_22 : decode cX5_starts 22 = .ok (.ireturn, 1) := by decide +kernel
theorem dX5_ask_0 : decode cX5_ask 0 = .ok (.aload_n 0, 1) := by decide +kernel
theorem dX5_ask_1 : decode cX5_ask 1 = .ok (.iload_n 1, 1) := by decide +kernel
theorem dX5_ask_2 : decode cX5_ask 2 = .ok (.invokevirtual 91, 3) := by decide +kernel
theorem dX5_ask_5 : decode cX5_ask 5 = .ok (.ifCond .ne 6, 3) := by decide +kernel
theorem dX5_ask_8 : decode cX5_ask 8 = .ok (.bipush (-2), 2) := by decide +kernel
theorem dX5_ask_10 : decode cX5_ask 10 = .ok (.ireturn, 1) := by decide +kernel
theorem dX5_ask_11 : decode cX5_ask 11 = .ok (.aload_n 0, 1) := by decide +kernel
theorem dX5_ask_12 : decode cX5_ask 12 = .ok (.iload_n 1, 1) := by decide +kernel
theorem dX5_ask_13 : decode cX5_ask 13 = .ok (.invokevirtual 237, 3) := by decide +kernel
theorem dX5_ask_16 : decode cX5_ask 16 = .ok (.ldc 240, 2) := by decide +kernel
theorem dX5_ask_18 : decode cX5_ask 18 = .ok (.istore_n 2, 1) := by decide +kernel
theorem dX5_ask_19 : decode cX5_ask 19 = .ok (.iconst 0, 1) := by decide +kernel
theorem dX5_ask_20 : decode cX5_ask 20 = .ok (.istore_n 3, 1) := by decide +kernel
theorem dX5_ask_21 : decode cX5_ask 21 = .ok (.iload_n 3, 1) := by decide +kernel
theorem dX5_ask_22 : decode cX5_ask 22 = .ok (.bipush 40, 2) := by decide +kernel
theorem dX5_ask_24 : decode cX5_ask 24 = .ok (.if_icmp .ge 24, 3) := by decide +kernel
theorem dX5_ask_27 : decode cX5_ask 27 = .ok (.iload_n 2, 1) := by decide +kernel
theorem dX5_ask_28 : decode cX5_ask 28 = .ok (.aload_n 0, 1) := by decide +kernel
theorem dX5_ask_29 : decode cX5_ask 29 = .ok (.iload_n 3, 1) := by decide +kernel
theorem dX5_ask_30 : decode cX5_ask 30 = .ok (.invokevirtual 241, 3) := by decide +kernel
theorem dX5_ask_33 : decode cX5_ask 33 = .ok (.bipush 64, 2) := by decide +kernel
theorem dX5_ask_35 : decode cX5_ask 35 = .ok (.imul, 1) := by decide +kernel
theorem dX5_ask_36 : decode cX5_ask 36 = .ok (.iload_n 3, 1) := by decide +kernel
theorem dX5_ask_37 : decode cX5_ask 37 = .ok (.iadd, 1) := by decide +kernel
theorem dX5_ask_38 : decode cX5_ask 38 = .ok (.invokestatic 244, 3) := by decide +kernel
theorem dX5_ask_41 : decode cX5_ask 41 = .ok (.istore_n 2, 1) := by decide +kernel
theorem dX5_ask_42 : decode cX5_ask 42 = .ok (.iinc 3 1, 3) := by decide +kernel
theorem dX5_ask_45 : decode cX5_ask 45 = .ok (.goto (-24), 3) := by decide +kernel
theorem dX5_ask_48 : decode cX5_ask 48 = .ok (.iload_n 2, 1) := by decide +kernel
theorem dX5_ask_49 : decode cX5_ask 49 = .ok (.iconst 0, 1) := by decide +kernel
theorem dX5_ask_50 : decode cX5_ask 50 = .ok (.invokestatic 203, 3) := by decide +kernel
theorem dX5_ask_53 : decode cX5_ask 53 = .ok (.ireturn, 1) := by decide +kernel
theorem dX5_moth_0 : decode cX5_moth 0 = .ok (.iload_n 1, 1) := by decide +kernel
theorem dX5_moth_1 : decode cX5_moth 1 = .ok (.iconst 0, 1) := by decide +kernel
theorem dX5_moth_2 : decode cX5_moth 2 = .ok (.bipush 16, 2) := by decide +kernel
theorem dX5_moth_4 : decode cX5_moth 4 = .ok (.invokestatic 66, 3) := by decide +kernel
theorem dX5_moth_7 : decode cX5_moth 7 = .ok (.ifCond .eq 20, 3) := by decide +kernel
theorem dX5_moth_10 : decode cX5_moth 10 = .ok (.aload_n 0, 1) := by decide +kernel
theorem dX5_moth_11 : decode cX5_moth 11 = .ok (.iload_n 2, 1) := by decide +kernel
theorem dX5_moth_12 : decode cX5_moth 12 = .ok (.invokevirtual 91, 3) := by decide +kernel
theorem dX5_moth_15 : decode cX5_moth 15 = .ok (.ifCond .eq 12, 3) := by decide +kernel
theorem dX5_moth_18 : decode cX5_moth 18 = .ok (.iload_n 3, 1) := by decide +kernel
theorem dX5_moth_19 : decode cX5_moth 19 = .ok (.iconst 0, 1) := by decide +kernel
theorem dX5_moth_20 : decode cX5_moth 20 = .ok (.iconst 1, 1) := by decide +kernel
theorem dX5_moth_21 : decode cX5_moth 21 = .ok (.invokestatic 66, 3) := by decide +kernel
theorem dX5_moth_24 : decode cX5_moth 24 = .ok (.ifCond .ne 7, 3) := by decide +kernel
theorem dX5_moth_27 : decode cX5_moth 27 = .ok (.ldc2_w 251, 3) := by decide +kernel
theorem dX5_moth_30 : decode cX5_moth 30 = .ok (.lreturn, 1) := by decide +kernel
theorem dX5_moth_31 : decode cX5_moth 31 = .ok (.aload_n 0, 1) := by decide +kernel
theorem dX5_moth_32 : decode cX5_moth 32 = .ok (.iload_n 1, 1) := by decide +kernel
theorem dX5_moth_33 : decode cX5_moth 33 = .ok (.iload_n 2, 1) := by decide +kernel
theorem dX5_moth_34 : decode cX5_moth 34 = .ok (.invokevirtual 253, 3) := by decide +kernel
theorem dX5_moth_37 : decode cX5_moth 37 = .ok (.lstore 4, 2) := by decide +kernel
theorem dX5_moth_39 : decode cX5_moth 39 = .ok (.lconst 1, 1) := by decide +kernel
theorem dX5_moth_40 : decode cX5_moth 40 = .ok (.iconst 4, 1) := by decide +kernel
theorem dX5_moth_41 : decode cX5_moth 41 = .ok (.aload_n 0, 1) := by decide +kernel
theorem dX5_moth_42 : decode cX5_moth 42 = .ok (.getfield 26, 3) := by decide +kernel
theorem dX5_moth_45 : decode cX5_moth 45 = .ok (.getfield 135, 3) := by decide +kernel
theorem dX5_moth_48 : decode cX5_moth 48 = .ok (.imul, 1) := by decide +kernel
theorem dX5_moth_49 : decode cX5_moth 49 = .ok (.lshl, 1) := by decide +kernel
theorem dX5_moth_50 : decode cX5_moth 50 = .ok (.lstore 6, 2) := by decide +kernel
theorem dX5_moth_52 : decode cX5_moth 52 = .ok (.iconst 0, 1) := by decide +kernel
theorem dX5_moth_53 : decode cX5_moth 53 = .ok (.istore 8, 2) := by decide +kernel
theorem dX5_moth_55 : decode cX5_moth 55 = .ok (.iload 8, 2) := by decide +kernel
theorem dX5_moth_57 : decode cX5_moth 57 = .ok (.bipush 24, 2) := by decide +kernel
theorem dX5_moth_59 : decode cX5_moth 59 = .ok (.if_icmp .ge 37, 3) := by decide +kernel
theorem dX5_moth_62 : decode cX5_moth 62 = .ok (.lload 4, 2) := by decide +kernel
theorem dX5_moth_64 : decode cX5_moth 64 = .ok (.lconst 1, 1) := by decide +kernel
theorem dX5_moth_65 : decode cX5_moth 65 = .ok (.land, 1) := by decide +kernel
theorem dX5_moth_66 : decode cX5_moth 66 = .ok (.lconst 0, 1) := by decide +kernel
theorem dX5_moth_67 : decode cX5_moth 67 = .ok (.lcmp, 1) := by decide +kernel
theorem dX5_moth_68 : decode cX5_moth 68 = .ok (.ifCond .ne 28, 3) := by decide +kernel
theorem dX5_moth_71 : decode cX5_moth 71 = .ok (.lload 6, 2) := by decide +kernel
theorem dX5_moth_73 : decode cX5_moth 73 = .ok (.lconst 1, 1) := by decide +kernel
theorem dX5_moth_74 : decode cX5_moth 74 = .ok (.lcmp, 1) := by decide +kernel
theorem dX5_moth_75 : decode cX5_moth 75 = .ok (.ifCond .le 21, 3) := by decide +kernel
theorem dX5_moth_78 : decode cX5_moth 78 = .ok (.lload 4, 2) := by decide +kernel
theorem dX5_moth_80 : decode cX5_moth 80 = .ok (.iconst 1, 1) := by decide +kernel
theorem dX5_moth_81 : decode cX5_moth 81 = .ok (.lshr, 1) := by decide +kernel
theorem dX5_moth_82 : decode cX5_moth 82 = .ok (.lstore 4, 2) := by decide +kernel
theorem dX5_moth_84 : decode cX5_moth 84 = .ok (.lload 6, 2) := by decide +kernel
theorem dX5_moth_86 : decode cX5_moth 86 = .ok (.iconst 1, 1) := by decide +kernel
theorem dX5_moth_87 : decode cX5_moth 87 = .ok (.lshr, 1) := by decide +kernel
theorem dX5_moth_88 : decode cX5_moth 88 = .ok (.lstore 6, 2) := by decide +kernel
theorem dX5_moth_90 : decode cX5_moth 90 = .ok (.iinc 8 1, 3) := by decide +kernel
theorem dX5_moth_93 : decode cX5_moth 93 = .ok (.goto (-38), 3) := by decide +kernel
theorem dX5_moth_96 : decode cX5_moth 96 = .ok (.iload_n 3, 1) := by decide +kernel
theorem dX5_moth_97 : decode cX5_moth 97 = .ok (.ifCond .ne 8, 3) := by decide +kernel
theorem dX5_moth_100 : decode cX5_moth 100 = .ok (.lload 4, 2) := by decide +kernel
theorem dX5_moth_102 : decode cX5_moth 102 = .ok (.goto 5, 3) := by decide +kernel
theorem dX5_moth_105 : decode cX5_moth 105 = .ok (.lload 6, 2) := by decide +kernel
theorem dX5_moth_107 : decode cX5_moth 107 = .ok (.lreturn, 1) := by decide +kernel
theorem dX5_year_0 : decode cX5_year 0 = .ok (.iload_n 2, 1) := by decide +kernel
theorem dX5_year_1 : decode cX5_year 1 = .ok (.iconst 0, 1) := by decide +kernel
theorem dX5_year_2 : decode cX5_year 2 = .ok (.bipush 40, 2) := by decide +kernel
theorem dX5_year_4 : decode cX5_year 4 = .ok (.invokestatic 66, 3) := by decide +kernel
theorem dX5_year_7 : decode cX5_year 7 = .ok (.ifCond .eq 12, 3) := by decide +kernel
theorem dX5_year_10 : decode cX5_year 10 = .ok (.iload_n 3, 1) := by decide +kernel
theorem dX5_year_11 : decode cX5_year 11 = .ok (.iconst 0, 1) := by decide +kernel
theorem dX5_year_12 : decode cX5_year 12 = .ok (.iconst 1, 1) := by decide +kernel
theorem dX5_year_13 : decode cX5_year 13 = .ok (.invokestatic 66, 3) := by decide +kernel
theorem dX5_year_16 : decode cX5_year 16 = .ok (.ifCond .ne 6, 3) := by decide +kernel
theorem dX5_year_19 : decode cX5_year 19 = .ok (.bipush (-2), 2) := by decide +kernel
theorem dX5_year_21 : decode cX5_year 21 = .ok (.ireturn, 1) := by decide +kernel
theorem dX5_year_22 : decode cX5_year 22 = .ok (.aload_n 0, 1) := by decide +kernel
theorem dX5_year_23 : decode cX5_year 23 = .ok (.iload_n 1, 1) := by decide +kernel
theorem dX5_year_24 : decode cX5_year 24 = .ok (.iload_n 2, 1) := by decide +kernel
theorem dX5_year_25 : decode cX5_year 25 = .ok (.invokevirtual 257, 3) := by decide +kernel
theorem dX5_year_28 : decode cX5_year 28 = .ok (.aload_n 0, 1) := by decide +kernel
theorem dX5_year_29 : decode cX5_year 29 = .ok (.getfield 26, 3) := by decide +kernel
theorem dX5_year_32 : decode cX5_year 32 = .ok (.getfield 120, 3) := by decide +kernel
theorem dX5_year_35 : decode cX5_year 35 = .ok (.astore 4, 2) := by decide +kernel
theorem dX5_year_37 : decode cX5_year 37 = .ok (.aload_n 0, 1) := by decide +kernel
theorem dX5_year_38 : decode cX5_year 38 = .ok (.getfield 26, 3) := by decide +kernel
theorem dX5_year_41 : decode cX5_year 41 = .ok (.aload_n 0, 1) := by decide +kernel
theorem dX5_year_42 : decode cX5_year 42 = .ok (.getfield 44, 3) := by decide +kernel
theorem dX5_year_45 : decode cX5_year 45 = .ok (.putfield 120, 3) := by decide +kernel
theorem dX5_year_48 : decode cX5_year 48 = .ok (.aload_n 0, 1) := by decide +kernel
theorem dX5_year_49 : decode cX5_year 49 = .ok (.getfield 37, 3) := by decide +kernel
theorem dX5_year_52 : decode cX5_year 52 = .ok (.aload_n 0, 1) := by decide +kernel
theorem dX5_year_53 : decode cX5_year 53 = .ok (.getfield 26, 3) := by decide +kernel
theorem dX5_year_56 : decode cX5_year 56 = .ok (.invokevirtual 209, 3) := by decide +kernel
theorem dX5_year_59 : decode cX5_year 59 = .ok (.aload_n 0, 1) := by decide +kernel
theorem dX5_year_60 : decode cX5_year 60 = .ok (.getfield 26, 3) := by decide +kernel
theorem dX5_year_63 : decode cX5_year 63 = .ok (.aload 4, 2) := by decide +kernel
theorem dX5_year_65 : decode cX5_year 65 = .ok (.putfield 120, 3) := by decide +kernel
theorem dX5_year_68 : decode cX5_year 68 = .ok (.iload_n 3, 1) := by decide +kernel
theorem dX5_year_69 : decode cX5_year 69 = .ok (.ifCond .ne 13, 3) := by decide +kernel
theorem dX5_year_72 : decode cX5_year 72 = .ok (.aload_n 0, 1) := by decide +kernel
theorem dX5_year_73 : decode cX5_year 73 = .ok (.getfield 37, 3) := by decide +kernel
theorem dX5_year_76 : decode cX5_year 76 = .ok (.invokevirtual 260, 3) := by decide +kernel
theorem dX5_year_79 : decode cX5_year 79 = .ok (.goto 13, 3) := by decide +kernel
theorem dX5_year_82 : decode cX5_year 82 = .ok (.aload_n 0, 1) := by decide +kernel
theorem dX5_year_83 : decode cX5_year 83 = .ok (.getfield 37, 3) := by decide +kernel
theorem dX5_year_86 : decode cX5_year 86 = .ok (.getfield 172, 3) := by decide +kernel
theorem dX5_year_89 : decode cX5_year 89 = .ok (.bipush 39, 2) := by decide +kernel
theorem dX5_year_91 : decode cX5_year 91 = .ok (.iaload, 1) := by decide +kernel
theorem dX5_year_92 : decode cX5_year 92 = .ok (.ireturn, 1) := by decide +kernel
theorem dX5_sheet_0 : decode cX5_sheet 0 = .ok (.iload_n 1, 1) := by decide +kernel
theorem dX5_sheet_1 : decode cX5_sheet 1 = .ok (.invokestatic 153, 3) := by decide +kernel
theorem dX5_sheet_4 : decode cX5_sheet 4 = .ok (.ifCond .eq 16, 3) := by decide +kernel
theorem dX5_sheet_7 : decode cX5_sheet 7 = .ok (.iload_n 2, 1) := by decide +kernel
theorem dX5_sheet_8 : decode cX5_sheet 8 = .ok (.invokestatic 263, 3) := by decide +kernel
theorem dX5_sheet_11 : decode cX5_sheet 11 = .ok (.ifCond .eq 9, 3) := by decide +kernel
theorem dX5_sheet_14 : decode cX5_sheet 14 = .ok (.iload_n 3, 1) := by decide +kernel
theorem dX5_sheet_15 : decode cX5_sheet 15 = .ok (.bipush 60, 2) := by decide +kernel
theorem dX5_sheet_17 : decode cX5_sheet 17 = .ok (.if_icmp .le 6, 3) := by decide +kernel
theorem dX5_sheet_20 : decode cX5_sheet 20 = .ok (.bipush (-2), 2) := by decide +kernel
theorem dX5_sheet_22 : decode cX5_sheet 22 = .ok (.ireturn, 1) := by decide +kernel
theorem dX5_sheet_23 : decode cX5_sheet 23 = .ok (.iload_n 3, 1) := by decide +kernel
theorem dX5_sheet_24 : decode cX5_sheet 24 = .ok (.ifCond .ge 9, 3) := by decide +kernel
theorem dX5_sheet_27 : decode cX5_sheet 27 = .ok (.aload_n 0, 1) := by decide +kernel
theorem dX5_sheet_28 : decode cX5_sheet 28 = .ok (.iconst 5, 1) := by decide +kernel
theorem dX5_sheet_29 : decode cX5_sheet 29 = .ok (.invokevirtual 159, 3) := by decide +kernel
theorem dX5_sheet_32 : decode cX5_sheet 32 = .ok (.ireturn, 1) := by decide +kernel
theorem dX5_sheet_33 : decode cX5_sheet 33 = .ok (.aload_n 0, 1) := by decide +kernel
theorem dX5_sheet_34 : decode cX5_sheet 34 = .ok (.getfield 62, 3) := by decide +kernel
theorem dX5_sheet_37 : decode cX5_sheet 37 = .ok (.iload_n 1, 1) := by decide +kernel
theorem dX5_sheet_38 : decode cX5_sheet 38 = .ok (.iload_n 2, 1) := by decide +kernel
theorem dX5_sheet_39 : decode cX5_sheet 39 = .ok (.iload_n 3, 1) := by decide +kernel
theorem dX5_sheet_40 : decode cX5_sheet 40 = .ok (.invokevirtual 266, 3) := by decide +kernel
theorem dX5_sheet_43 : decode cX5_sheet 43 = .ok (.iload_n 3, 1) := by decide +kernel
theorem dX5_sheet_44 : decode cX5_sheet 44 = .ok (.ireturn, 1) := by decide +kernel
theorem dX5_lose_0 : decode cX5_lose 0 = .ok (.iload_n 1, 1) := by decide +kernel
theorem dX5_lose_1 : decode cX5_lose 1 = .ok (.invokestatic 153, 3) := by decide +kernel
theorem dX5_lose_4 : decode cX5_lose 4 = .ok (.ifCond .ne 6, 3) := by decide +kernel
theorem dX5_lose_7 : decode cX5_lose 7 = .ok (.bipush (-2), 2) := by decide +kernel
theorem dX5_lose_9 : decode cX5_lose 9 = .ok (.ireturn, 1) := by decide +kernel
theorem dX5_lose_10 : decode cX5_lose 10 = .ok (.aload_n 0, 1) := by decide +kernel
theorem dX5_lose_11 : decode cX5_lose 11 = .ok (.getfield 62, 3) := by decide +kernel
theorem dX5_lose_14 : decode cX5_lose 14 = .ok (.iload_n 1, 1) := by decide +kernel
theorem dX5_lose_15 : decode cX5_lose 15 = .ok (.invokevirtual 156, 3) := by decide +kernel
theorem dX5_lose_18 : decode cX5_lose 18 = .ok (.ifCond .eq 9, 3) := by decide +kernel
theorem dX5_lose_21 : decode cX5_lose 21 = .ok (.aload_n 0, 1) := by decide +kernel
theorem dX5_lose_22 : decode cX5_lose 22 = .ok (.iconst 1, 1) := by decide +kernel
theorem dX5_lose_23 : decode cX5_lose 23 = .ok (.invokevirtual 159, 3) := by decide +kernel
theorem dX5_lose_26 : decode cX5_lose 26 = .ok (.ireturn, 1) := by decide +kernel
theorem dX5_lose_27 : decode cX5_lose 27 = .ok (.aload_n 0, 1) := by decide +kernel
theorem dX5_lose_28 : decode cX5_lose 28 = .ok (.getfield 62, 3) := by decide +kernel
theorem dX5_lose_31 : decode cX5_lose 31 = .ok (.getfield 163, 3) := by decide +kernel
theorem dX5_lose_34 : decode cX5_lose 34 = .ok (.iload_n 1, 1) := by decide +kernel
theorem dX5_lose_35 : decode cX5_lose 35 = .ok (.iaload, 1) := by decide +kernel
theorem dX5_lose_36 : decode cX5_lose 36 = .ok (.istore_n 2, 1) := by decide +kernel
theorem dX5_lose_37 : decode cX5_lose 37 = .ok (.aload_n 0, 1) := by decide +kernel
theorem dX5_lose_38 : decode cX5_lose 38 = .ok (.getfield 62, 3) := by decide +kernel
theorem dX5_lose_41 : decode cX5_lose 41 = .ok (.iload_n 1, 1) := by decide +kernel
theorem dX5_lose_42 : decode cX5_lose 42 = .ok (.invokevirtual 269, 3) := by decide +kernel
theorem dX5_lose_45 : decode cX5_lose 45 = .ok (.iload_n 2, 1) := by decide +kernel
theorem dX5_lose_46 : decode cX5_lose 46 = .ok (.ireturn, 1) := by decide +kernel
theorem dX5_put_0 : decode cX5_put 0 = .ok (.aload_n 0, 1) := by decide +kernel
theorem dX5_put_1 : decode cX5_put 1 = .ok (.iload_n 1, 1) := by decide +kernel
theorem dX5_put_2 : decode cX5_put 2 = .ok (.iload_n 2, 1) := by decide +kernel
theorem dX5_put_3 : decode cX5_put 3 = .ok (.iload_n 3, 1) := by decide +kernel
theorem dX5_put_4 : decode cX5_put 4 = .ok (.invokevirtual 272, 3) := by decide +kernel
theorem dX5_put_7 : decode cX5_put 7 = .ok (.istore 5, 2) := by decide +kernel
theorem dX5_put_9 : decode cX5_put 9 = .ok (.iload 5, 2) := by decide +kernel
theorem dX5_put_11 : decode cX5_put 11 = .ok (.ifCond .eq 6, 3) := by decide +kernel
theorem dX5_put_14 : decode cX5_put 14 = .ok (.iload 5, 2) := by decide +kernel
theorem dX5_put_16 : decode cX5_put 16 = .ok (.ireturn, 1) := by decide +kernel
theorem dX5_put_17 : decode cX5_put 17 = .ok (.aload_n 0, 1) := by decide +kernel
theorem dX5_put_18 : decode cX5_put 18 = .ok (.getfield 62, 3) := by decide +kernel
theorem dX5_put_21 : decode cX5_put 21 = .ok (.iload_n 1, 1) := by decide +kernel
theorem dX5_put_22 : decode cX5_put 22 = .ok (.iload_n 3, 1) := by decide +kernel
theorem dX5_put_23 : decode cX5_put 23 = .ok (.iload 4, 2) := by decide +kernel
theorem dX5_put_25 : decode cX5_put 25 = .ok (.invokevirtual 276, 3) := by decide +kernel
theorem dX5_put_28 : decode cX5_put 28 = .ok (.iconst 1, 1) := by decide +kernel
theorem dX5_put_29 : decode cX5_put 29 = .ok (.ireturn, 1) := by decide +kernel
theorem dX5_get_0 : decode cX5_get 0 = .ok (.aload_n 0, 1) := by decide +kernel
theorem dX5_get_1 : decode cX5_get 1 = .ok (.iload_n 1, 1) := by decide +kernel
theorem dX5_get_2 : decode cX5_get 2 = .ok (.iload_n 2, 1) := by decide +kernel
theorem dX5_get_3 : decode cX5_get 3 = .ok (.iload_n 3, 1) := by decide +kernel
theorem dX5_get_4 : decode cX5_get 4 = .ok (.invokevirtual 272, 3) := by decide +kernel
theorem dX5_get_7 : decode cX5_get 7 = .ok (.ifCond .ne 15, 3) := by decide +kernel
theorem dX5_get_10 : decode cX5_get 10 = .ok (.aload_n 0, 1) := by decide +kernel
theorem dX5_get_11 : decode cX5_get 11 = .ok (.getfield 62, 3) := by decide +kernel
theorem dX5_get_14 : decode cX5_get 14 = .ok (.iload_n 1, 1) := by decide +kernel
theorem dX5_get_15 : decode cX5_get 15 = .ok (.iload_n 3, 1) := by decide +kernel
theorem dX5_get_16 : decode cX5_get 16 = .ok (.invokevirtual 165, 3) := by decide +kernel
theorem dX5_get_19 : decode cX5_get 19 = .ok (.goto 6, 3) := by decide +kernel
theorem dX5_get_22 : decode cX5_get 22 = .ok (.ldc_w 279, 3) := by decide +kernel
theorem dX5_get_25 : decode cX5_get 25 = .ok (.ireturn, 1) := by decide +kernel
theorem dX5_copy_0 : decode cX5_copy 0 = .ok (.iload_n 1, 1) := by decide +kernel
theorem dX5_copy_1 : decode cX5_copy 1 = .ok (.invokestatic 153, 3) := by decide +kernel
theorem dX5_copy_4 : decode cX5_copy 4 = .ok (.ifCond .eq 10, 3) := by decide +kernel
theorem dX5_copy_7 : decode cX5_copy 7 = .ok (.iload_n 3, 1) := by decide +kernel
theorem dX5_copy_8 : decode cX5_copy 8 = .ok (.invokestatic 153, 3) := by decide +kernel
theorem dX5_copy_11 : decode cX5_copy 11 = .ok (.ifCond .ne 6, 3) := by decide +kernel
theorem dX5_copy_14 : decode cX5_copy 14 = .ok (.bipush (-2), 2) := by decide +kernel
theorem dX5_copy_16 : decode cX5_copy 16 = .ok (.ireturn, 1) := by decide +kernel
theorem dX5_copy_17 : decode cX5_copy 17 = .ok (.aload_n 0, 1) := by decide +kernel
theorem dX5_copy_18 : decode cX5_copy 18 = .ok (.getfield 62, 3) := by decide +kernel
theorem dX5_copy_21 : decode cX5_copy 21 = .ok (.iload_n 1, 1) := by decide +kernel
theorem dX5_copy_22 : decode cX5_copy 22 = .ok (.invokevirtual 156, 3) := by decide +kernel
theorem dX5_copy_25 : decode cX5_copy 25 = .ok (.ifCond .ne 14, 3) := by decide +kernel
theorem dX5_copy_28 : decode cX5_copy 28 = .ok (.aload_n 0, 1) := by decide +kernel
theorem dX5_copy_29 : decode cX5_copy 29 = .ok (.getfield 62, 3) := by decide +kernel
theorem dX5_copy_32 : decode cX5_copy 32 = .ok (.iload_n 3, 1) := by decide +kernel
theorem dX5_copy_33 : decode cX5_copy 33 = .ok (.invokevirtual 156, 3) := by decide +kernel
theorem dX5_copy_36 : decode cX5_copy 36 = .ok (.ifCond .eq 9, 3) := by decide +kernel
theorem dX5_copy_39 : decode cX5_copy 39 = .ok (.aload_n 0, 1) := by decide +kernel
theorem dX5_copy_40 : decode cX5_copy 40 = .ok (.iconst 1, 1) := by decide +kernel
theorem dX5_copy_41 : decode cX5_copy 41 = .ok (.invokevirtual 159, 3) := by decide +kernel
theorem dX5_copy_44 : decode cX5_copy 44 = .ok (.ireturn, 1) := by decide +kernel
theorem dX5_copy_45 : decode cX5_copy 45 = .ok (.aload_n 0, 1) := by decide +kernel
theorem dX5_copy_46 : decode cX5_copy 46 = .ok (.getfield 62, 3) := by decide +kernel
theorem dX5_copy_49 : decode cX5_copy 49 = .ok (.getfield 280, 3) := by decide +kernel
theorem dX5_copy_52 : decode cX5_copy 52 = .ok (.iload_n 1, 1) := by decide +kernel
theorem dX5_copy_53 : decode cX5_copy 53 = .ok (.iaload, 1) := by decide +kernel
theorem dX5_copy_54 : decode cX5_copy 54 = .ok (.aload_n 0, 1) := by decide +kernel
theorem dX5_copy_55 : decode cX5_copy 55 = .ok (.getfield 62, 3) := by decide +kernel
theorem dX5_copy_58 : decode cX5_copy 58 = .ok (.getfield 280, 3) := by decide +kernel
theorem dX5_copy_61 : decode cX5_copy 61 = .ok (.iload_n 3, 1) := by decide +kernel
theorem dX5_copy_62 : decode cX5_copy 62 = .ok (.iaload, 1) := by decide +kernel
theorem dX5_copy_63 : decode cX5_copy 63 = .ok (.if_icmp .eq 9, 3) := by decide +kernel
theorem dX5_copy_66 : decode cX5_copy 66 = .ok (.aload_n 0, 1) := by decide +kernel
theorem dX5_copy_67 : decode cX5_copy 67 = .ok (.iconst 4, 1) := by decide +kernel
theorem dX5_copy_68 : decode cX5_copy 68 = .ok (.invokevirtual 159, 3) := by decide +kernel
theorem dX5_copy_71 : decode cX5_copy 71 = .ok (.ireturn, 1) := by decide +kernel
theorem dX5_copy_72 : decode cX5_copy 72 = .ok (.aload_n 0, 1) := by decide +kernel
theorem dX5_copy_73 : decode cX5_copy 73 = .ok (.getfield 62, 3) := by decide +kernel
theorem dX5_copy_76 : decode cX5_copy 76 = .ok (.iload_n 1, 1) := by decide +kernel
theorem dX5_copy_77 : decode cX5_copy 77 = .ok (.iload_n 2, 1) := by decide +kernel
theorem dX5_copy_78 : decode cX5_copy 78 = .ok (.iload 5, 2) := by decide +kernel
theorem dX5_copy_80 : decode cX5_copy 80 = .ok (.invokevirtual 283, 3) := by decide +kernel
theorem dX5_copy_83 : decode cX5_copy 83 = .ok (.ifCond .eq 18, 3) := by decide +kernel
theorem dX5_copy_86 : decode cX5_copy 86 = .ok (.aload_n 0, 1) := by decide +kernel
theorem dX5_copy_87 : decode cX5_copy 87 = .ok (.getfield 62, 3) := by decide +kernel
theorem dX5_copy_90 : decode cX5_copy 90 = .ok (.iload_n 3, 1) := by decide +kernel
theorem dX5_copy_91 : decode cX5_copy 91 = .ok (.iload 4, 2) := by decide +kernel
theorem dX5_copy_93 : decode cX5_copy 93 = .ok (.iload 5, 2) := by decide +kernel
theorem dX5_copy_95 : decode cX5_copy 95 = .ok (.invokevirtual 283, 3) := by decide +kernel
theorem dX5_copy_98 : decode cX5_copy 98 = .ok (.ifCond .ne 9, 3) := by decide +kernel
theorem dX5_copy_101 : decode cX5_copy 101 = .ok (.aload_n 0, 1) := by decide +kernel
theorem dX5_copy_102 : decode cX5_copy 102 = .ok (.iconst 2, 1) := by decide +kernel
theorem dX5_copy_103 : decode cX5_copy 103 = .ok (.invokevirtual 159, 3) := by decide +kernel
theorem dX5_copy_106 : decode cX5_copy 106 = .ok (.ireturn, 1) := by decide +kernel
theorem dX5_copy_107 : decode cX5_copy 107 = .ok (.aload_n 0, 1) := by decide +kernel
theorem dX5_copy_108 : decode cX5_copy 108 = .ok (.getfield 62, 3) := by decide +kernel
theorem dX5_copy_111 : decode cX5_copy 111 = .ok (.iload_n 1, 1) := by decide +kernel
theorem dX5_copy_112 : decode cX5_copy 112 = .ok (.iload_n 2, 1) := by decide +kernel
theorem dX5_copy_113 : decode cX5_copy 113 = .ok (.iload_n 3, 1) := by decide +kernel
theorem dX5_copy_114 : decode cX5_copy 114 = .ok (.iload 4, 2) := by decide +kernel
theorem dX5_copy_116 : decode cX5_copy 116 = .ok (.iload 5, 2) := by decide +kernel
theorem dX5_copy_118 : decode cX5_copy 118 = .ok (.invokevirtual 286, 3) := by decide +kernel
theorem dX5_copy_121 : decode cX5_copy 121 = .ok (.iconst 1, 1) := by decide +kernel
theorem dX5_copy_122 : decode cX5_copy 122 = .ok (.ireturn, 1) := by decide +kernel
theorem dX5_write_0 : decode cX5_write 0 = .ok (.aload_n 0, 1) := by decide +kernel
theorem dX5_write_1 : decode cX5_write 1 = .ok (.iload_n 1, 1) := by decide +kernel
theorem dX5_write_2 : decode cX5_write 2 = .ok (.invokevirtual 91, 3) := by decide +kernel
theorem dX5_write_5 : decode cX5_write 5 = .ok (.ifCond .eq 10, 3) := by decide +kernel
theorem dX5_write_8 : decode cX5_write 8 = .ok (.iload_n 2, 1) := by decide +kernel
theorem dX5_write_9 : decode cX5_write 9 = .ok (.invokestatic 153, 3) := by decide +kernel
theorem dX5_write_12 : decode cX5_write 12 = .ok (.ifCond .ne 6, 3) := by decide +kernel
theorem dX5_write_15 : decode cX5_write 15 = .ok (.bipush (-2), 2) := by decide +kernel
theorem dX5_write_17 : decode cX5_write 17 = .ok (.ireturn, 1) := by decide +kernel
theorem dX5_write_18 : decode cX5_write 18 = .ok (.aload_n 0, 1) := by decide +kernel
theorem dX5_write_19 : decode cX5_write 19 = .ok (.getfield 62, 3) := by decide +kernel
theorem dX5_write_22 : decode cX5_write 22 = .ok (.iload_n 2, 1) := by decide +kernel
theorem dX5_write_23 : decode cX5_write 23 = .ok (.invokevirtual 156, 3) := by decide +kernel
theorem dX5_write_26 : decode cX5_write 26 = .ok (.ifCond .eq 9, 3) := by decide +kernel
theorem dX5_write_29 : decode cX5_write 29 = .ok (.aload_n 0, 1) := by decide +kernel
theorem dX5_write_30 : decode cX5_write 30 = .ok (.iconst 1, 1) := by decide +kernel
theorem dX5_write_31 : decode cX5_write 31 = .ok (.invokevirtual 159, 3) := by decide +kernel
theorem dX5_write_34 : decode cX5_write 34 = .ok (.ireturn, 1) := by decide +kernel
theorem dX5_write_35 : decode cX5_write 35 = .ok (.aload_n 0, 1) := by decide +kernel
theorem dX5_write_36 : decode cX5_write 36 = .ok (.invokevirtual 168, 3) := by decide +kernel
theorem dX5_write_39 : decode cX5_write 39 = .ok (.astore_n 3, 1) := by decide +kernel
theorem dX5_write_40 : decode cX5_write 40 = .ok (.aload_n 0, 1) := by decide +kernel
theorem dX5_write_41 : decode cX5_write 41 = .ok (.getfield 62, 3) := by decide +kernel
theorem dX5_write_44 : decode cX5_write 44 = .ok (.getfield 163, 3) := by decide +kernel
theorem dX5_write_47 : decode cX5_write 47 = .ok (.iload_n 2, 1) := by decide +kernel
theorem dX5_write_48 : decode cX5_write 48 = .ok (.iaload, 1) := by decide +kernel
theorem dX5_write_49 : decode cX5_write 49 = .ok (.bipush 40, 2) := by decide +kernel
theorem dX5_write_51 : decode cX5_write 51 = .ok (.invokestatic 244, 3) := by decide +kernel
theorem dX5_write_54 : decode cX5_write 54 = .ok (.istore 4, 2) := by decide +kernel
theorem dX5_write_56 : decode cX5_write 56 = .ok (.iconst 0, 1) := by decide +kernel
theorem dX5_write_57 : decode cX5_write 57 = .ok (.istore 5, 2) := by decide +kernel
theorem dX5_write_59 : decode cX5_write 59 = .ok (.iload 5, 2) := by decide +kernel
theorem dX5_write_61 : decode cX5_write 61 = .ok (.iload 4, 2) := by decide +kernel
theorem dX5_write_63 : decode cX5_write 63 = .ok (.if_icmp .ge 26, 3) := by decide +kernel
theorem dX5_write_66 : decode cX5_write 66 = .ok (.aload_n 0, 1) := by decide +kernel
theorem dX5_write_67 : decode cX5_write 67 = .ok (.getfield 62, 3) := by decide +kernel
theorem dX5_write_70 : decode cX5_write 70 = .ok (.iload_n 2, 1) := by decide +kernel
theorem dX5_write_71 : decode cX5_write 71 = .ok (.iload 5, 2) := by decide +kernel
theorem dX5_write_73 : decode cX5_write 73 = .ok (.aload_n 3, 1) := by decide +kernel
theorem dX5_write_74 : decode cX5_write 74 = .ok (.iload 5, 2) := by decide +kernel
theorem dX5_write_76 : decode cX5_write 76 = .ok (.iload_n 1, 1) := by decide +kernel
theorem dX5_write_77 : decode cX5_write 77 = .ok (.invokevirtual 184, 3) := by decide +kernel
theorem dX5_write_80 : decode cX5_write 80 = .ok (.invokevirtual 276, 3) := by decide +kernel
theorem dX5_write_83 : decode cX5_write 83 = .ok (.iinc 5 1, 3) := by decide +kernel
theorem dX5_write_86 : decode cX5_write 86 = .ok (.goto (-27), 3) := by decide +kernel
theorem dX5_write_89 : decode cX5_write 89 = .ok (.iload 4, 2) := by decide +kernel
theorem dX5_write_91 : decode cX5_write 91 = .ok (.ireturn, 1) := by decide +kernel
theorem dX5_count_0 : decode cX5_count 0 = .ok (.iload_n 1, 1) := by decide +kernel
theorem dX5_count_1 : decode cX5_count 1 = .ok (.tableswitch 120 0 8 #[51, 62, 70, 78, 86, 94, 102, 110, 115], 51) := by decide +kernel
theorem dX5_count_52 : decode cX5_count 52 = .ok (.aload_n 0, 1) := by decide +kernel
theorem dX5_count_53 : decode cX5_count 53 = .ok (.getfield 26, 3) := by decide +kernel
theorem dX5_count_56 : decode cX5_count 56 = .ok (.getfield 95, 3) := by decide +kernel
theorem dX5_count_59 : decode cX5_count 59 = .ok (.getfield 290, 3) := by decide +kernel
theorem dX5_count_62 : decode cX5_count 62 = .ok (.ireturn, 1) := by decide +kernel
theorem dX5_count_63 : decode cX5_count 63 = .ok (.aload_n 0, 1) := by decide +kernel
theorem dX5_count_64 : decode cX5_count 64 = .ok (.getfield 26, 3) := by decide +kernel
theorem dX5_count_67 : decode cX5_count 67 = .ok (.getfield 293, 3) := by decide +kernel
theorem dX5_count_70 : decode cX5_count 70 = .ok (.ireturn, 1) := by decide +kernel
theorem dX5_count_71 : decode cX5_count 71 = .ok (.aload_n 0, 1) := by decide +kernel
theorem dX5_count_72 : decode cX5_count 72 = .ok (.getfield 16, 3) := by decide +kernel
theorem dX5_count_75 : decode cX5_count 75 = .ok (.getfield 84, 3) := by decide +kernel
theorem dX5_count_78 : decode cX5_count 78 = .ok (.ireturn, 1) := by decide +kernel
theorem dX5_count_79 : decode cX5_count 79 = .ok (.aload_n 0, 1) := by decide +kernel
theorem dX5_count_80 : decode cX5_count 80 = .ok (.getfield 20, 3) := by decide +kernel
theorem dX5_count_83 : decode cX5_count 83 = .ok (.getfield 84, 3) := by decide +kernel
theorem dX5_count_86 : decode cX5_count 86 = .ok (.ireturn, 1) := by decide +kernel
theorem dX5_count_87 : decode cX5_count 87 = .ok (.aload_n 0, 1) := by decide +kernel
theorem dX5_count_88 : decode cX5_count 88 = .ok (.getfield 26, 3) := by decide +kernel
theorem dX5_count_91 : decode cX5_count 91 = .ok (.getfield 135, 3) := by decide +kernel
theorem dX5_count_94 : decode cX5_count 94 = .ok (.ireturn, 1) := by decide +kernel
theorem dX5_count_95 : decode cX5_count 95 = .ok (.aload_n 0, 1) := by decide +kernel
theorem dX5_count_96 : decode cX5_count 96 = .ok (.getfield 26, 3) := by decide +kernel
theorem dX5_count_99 : decode cX5_count 99 = .ok (.getfield 146, 3) := by decide +kernel
theorem dX5_count_102 : decode cX5_count 102 = .ok (.ireturn, 1) := by decide +kernel
theorem dX5_count_103 : decode cX5_count 103 = .ok (.aload_n 0, 1) := by decide +kernel
theorem dX5_count_104 : decode cX5_count 104 = .ok (.invokevirtual 168, 3) := by decide +kernel
theorem dX5_count_107 : decode cX5_count 107 = .ok (.invokevirtual 260, 3) := by decide +kernel
theorem dX5_count_110 : decode cX5_count 110 = .ok (.ireturn, 1) := by decide +kernel
theorem dX5_count_111 : decode cX5_count 111 = .ok (.aload_n 0, 1) := by decide +kernel
theorem dX5_count_112 : decode cX5_count 112 = .ok (.getfield 216, 3) := by decide +kernel
theorem dX5_count_115 : decode cX5_count 115 = .ok (.ireturn, 1) := by decide +kernel
theorem dX5_count_116 : decode cX5_count 116 = .ok (.aload_n 0, 1) := by decide +kernel
theorem dX5_count_117 : decode cX5_count 117 = .ok (.getfield 296, 3) := by decide +kernel
theorem dX5_count_120 : decode cX5_count 120 = .ok (.ireturn, 1) := by decide +kernel
theorem dX5_count_121 : decode cX5_count 121 = .ok (.bipush (-2), 2) := by decide +kernel
theorem dX5_count_123 : decode cX5_count 123 = .ok (.ireturn, 1) := by decide +kernel
theorem dX5_digest_0 : decode cX5_digest 0 = .ok (.ldc2_w 299, 3) := by decide +kernel
theorem dX5_digest_3 : decode cX5_digest 3 = .ok (.lstore_n 1, 1) := by decide +kernel
theorem dX5_digest_4 : decode cX5_digest 4 = .ok (.iconst 0, 1) := by decide +kernel
theorem dX5_digest_5 : decode cX5_digest 5 = .ok (.istore_n 3, 1) := by decide +kernel
theorem dX5_digest_6 : decode cX5_digest 6 = .ok (.iload_n 3, 1) := by decide +kernel
theorem dX5_digest_7 : decode cX5_digest 7 = .ok (.bipush 7, 2) := by decide +kernel
theorem dX5_digest_9 : decode cX5_digest 9 = .ok (.if_icmp .gt 22, 3) := by decide +kernel
theorem dX5_digest_12 : decode cX5_digest 12 = .ok (.ldc2_w 301, 3) := by decide +kernel
theorem dX5_digest_15 : decode cX5_digest 15 = .ok (.lload_n 1, 1) := by decide +kernel
theorem dX5_digest_16 : decode cX5_digest 16 = .ok (.lmul, 1) := by decide +kernel
theorem dX5_digest_17 : decode cX5_digest 17 = .ok (.aload_n 0, 1) := by decide +kernel
theorem dX5_digest_18 : decode cX5_digest 18 = .ok (.iload_n 3, 1) := by decide +kernel
theorem dX5_digest_19 : decode cX5_digest 19 = .ok (.invokevirtual 303, 3) := by decide +kernel
theorem dX5_digest_22 : decode cX5_digest 22 = .ok (.i2l, 1) := by decide +kernel
theorem dX5_digest_23 : decode cX5_digest 23 = .ok (.ladd, 1) := by decide +kernel
theorem dX5_digest_24 : decode cX5_digest 24 = .ok (.lstore_n 1, 1) := by decide +kernel
theorem dX5_digest_25 : decode cX5_digest 25 = .ok (.iinc 3 1, 3) := by decide +kernel
theorem dX5_digest_28 : decode cX5_digest 28 = .ok (.goto (-22), 3) := by decide +kernel
theorem dX5_digest_31 : decode cX5_digest 31 = .ok (.ldc2_w 301, 3) := by decide +kernel
theorem dX5_digest_34 : decode cX5_digest 34 = .ok (.lload_n 1, 1) := by decide +kernel
theorem dX5_digest_35 : decode cX5_digest 35 = .ok (.lmul, 1) := by decide +kernel
theorem dX5_digest_36 : decode cX5_digest 36 = .ok (.aload_n 0, 1) := by decide +kernel
theorem dX5_digest_37 : decode cX5_digest 37 = .ok (.iconst 0, 1) := by decide +kernel
theorem dX5_digest_38 : decode cX5_digest 38 = .ok (.invokevirtual 306, 3) := by decide +kernel
theorem dX5_digest_41 : decode cX5_digest 41 = .ok (.i2l, 1) := by decide +kernel
theorem dX5_digest_42 : decode cX5_digest 42 = .ok (.ladd, 1) := by decide +kernel
theorem dX5_digest_43 : decode cX5_digest 43 = .ok (.lstore_n 1, 1) := by decide +kernel
theorem dX5_digest_44 : decode cX5_digest 44 = .ok (.ldc2_w 301, 3) := by decide +kernel
theorem dX5_digest_47 : decode cX5_digest 47 = .ok (.lload_n 1, 1) := by decide +kernel
theorem dX5_digest_48 : decode cX5_digest 48 = .ok (.lmul, 1) := by decide +kernel
theorem dX5_digest_49 : decode cX5_digest 49 = .ok (.aload_n 0, 1) := by decide +kernel
theorem dX5_digest_50 : decode cX5_digest 50 = .ok (.iconst 1, 1) := by decide +kernel
theorem dX5_digest_51 : decode cX5_digest 51 = .ok (.invokevirtual 306, 3) := by decide +kernel
theorem dX5_digest_54 : decode cX5_digest 54 = .ok (.i2l, 1) := by decide +kernel
theorem dX5_digest_55 : decode cX5_digest 55 = .ok (.ladd, 1) := by decide +kernel
theorem dX5_digest_56 : decode cX5_digest 56 = .ok (.lstore_n 1, 1) := by decide +kernel
theorem dX5_digest_57 : decode cX5_digest 57 = .ok (.iconst 0, 1) := by decide +kernel
theorem dX5_digest_58 : decode cX5_digest 58 = .ok (.istore_n 3, 1) := by decide +kernel
theorem dX5_digest_59 : decode cX5_digest 59 = .ok (.iload_n 3, 1) := by decide +kernel
theorem dX5_digest_60 : decode cX5_digest 60 = .ok (.bipush 40, 2) := by decide +kernel
theorem dX5_digest_62 : decode cX5_digest 62 = .ok (.if_icmp .ge 16, 3) := by decide +kernel
theorem dX5_digest_65 : decode cX5_digest 65 = .ok (.aload_n 0, 1) := by decide +kernel
theorem dX5_digest_66 : decode cX5_digest 66 = .ok (.lload_n 1, 1) := by decide +kernel
theorem dX5_digest_67 : decode cX5_digest 67 = .ok (.iload_n 3, 1) := by decide +kernel
theorem dX5_digest_68 : decode cX5_digest 68 = .ok (.invokevirtual 308, 3) := by decide +kernel
theorem dX5_digest_71 : decode cX5_digest 71 = .ok (.lstore_n 1, 1) := by decide +kernel
theorem dX5_digest_72 : decode cX5_digest 72 = .ok (.iinc 3 1, 3) := by decide +kernel
theorem dX5_digest_75 : decode cX5_digest 75 = .ok (.goto (-16), 3) := by decide +kernel
theorem dX5_digest_78 : decode cX5_digest 78 = .ok (.iconst 0, 1) := by decide +kernel
theorem dX5_digest_79 : decode cX5_digest 79 = .ok (.istore_n 3, 1) := by decide +kernel
theorem dX5_digest_80 : decode cX5_digest 80 = .ok (.iload_n 3, 1) := by decide +kernel
theorem dX5_digest_81 : decode cX5_digest 81 = .ok (.aload_n 0, 1) := by decide +kernel
theorem dX5_digest_82 : decode cX5_digest 82 = .ok (.getfield 26, 3) := by decide +kernel
theorem dX5_digest_85 : decode cX5_digest 85 = .ok (.getfield 95, 3) := by decide +kernel
theorem dX5_digest_88 : decode cX5_digest 88 = .ok (.getfield 290, 3) := by decide +kernel
theorem dX5_digest_91 : decode cX5_digest 91 = .ok (.if_icmp .ge 16, 3) := by decide +kernel
theorem dX5_digest_94 : decode cX5_digest 94 = .ok (.aload_n 0, 1) := by decide +kernel
theorem dX5_digest_95 : decode cX5_digest 95 = .ok (.lload_n 1, 1) := by decide +kernel
theorem dX5_digest_96 : decode cX5_digest 96 = .ok (.iload_n 3, 1) := by decide +kernel
theorem dX5_digest_97 : decode cX5_digest 97 = .ok (.invokevirtual 312, 3) := by decide +kernel
theorem dX5_digest_100 : decode cX5_digest 100 = .ok (.lstore_n 1, 1) := by decide +kernel
theorem dX5_digest_101 : decode cX5_digest 101 = .ok (.iinc 3 1, 3) := by decide +kernel
theorem dX5_digest_104 : decode cX5_digest 104 = .ok (.goto (-24), 3) := by decide +kernel
theorem dX5_digest_107 : decode cX5_digest 107 = .ok (.aload_n 0, 1) := by decide +kernel
theorem dX5_digest_108 : decode cX5_digest 108 = .ok (.lload_n 1, 1) := by decide +kernel
theorem dX5_digest_109 : decode cX5_digest 109 = .ok (.invokevirtual 315, 3) := by decide +kernel
theorem dX5_digest_112 : decode cX5_digest 112 = .ok (.lreturn, 1) := by decide +kernel
theorem dX5_digestHour_0 : decode cX5_digestHour 0 = .ok (.ldc2_w 301, 3) := by decide +kernel
theorem dX5_digestHour_3 : decode cX5_digestHour 3 = .ok (.lload_n 1, 1) := by decide +kernel
theorem dX5_digestHour_4 : decode cX5_digestHour 4 = .ok (.lmul, 1) := by decide +kernel
theorem dX5_digestHour_5 : decode cX5_digestHour 5 = .ok (.aload_n 0, 1) := by decide +kernel
theorem dX5_digestHour_6 : decode cX5_digestHour 6 = .ok (.iload_n 3, 1) := by decide +kernel
theorem dX5_digestHour_7 : decode cX5_digestHour 7 = .ok (.invokevirtual 319, 3) := by decide +kernel
theorem dX5_digestHour_10 : decode cX5_digestHour 10 = .ok (.i2l, 1) := by decide +kernel
theorem dX5_digestHour_11 : decode cX5_digestHour 11 = .ok (.ladd, 1) := by decide +kernel
theorem dX5_digestHour_12 : decode cX5_digestHour 12 = .ok (.lstore 4, 2) := by decide +kernel
theorem dX5_digestHour_14 : decode cX5_digestHour 14 = .ok (.iconst 0, 1) := by decide +kernel
theorem dX5_digestHour_15 : decode cX5_digestHour 15 = .ok (.istore 6, 2) := by decide +kernel
theorem dX5_digestHour_17 : decode cX5_digestHour 17 = .ok (.iload 6, 2) := by decide +kernel
theorem dX5_digestHour_19 : decode cX5_digestHour 19 = .ok (.iconst 3, 1) := by decide +kernel
theorem dX5_digestHour_20 : decode cX5_digestHour 20 = .ok (.if_icmp .gt 26, 3) := by decide +kernel
theorem dX5_digestHour_23 : decode cX5_digestHour 23 = .ok (.ldc2_w 301, 3) := by decide +kernel
theorem dX5_digestHour_26 : decode cX5_digestHour 26 = .ok (.lload 4, 2) := by decide +kernel
theorem dX5_digestHour_28 : decode cX5_digestHour 28 = .ok (.lmul, 1) := by decide +kernel
theorem dX5_digestHour_29 : decode cX5_digestHour 29 = .ok (.aload_n 0, 1) := by decide +kernel
theorem dX5_digestHour_30 : decode cX5_digestHour 30 = .ok (.iload_n 3, 1) := by decide +kernel
theorem dX5_digestHour_31 : decode cX5_digestHour 31 = .ok (.iload 6, 2) := by decide +kernel
theorem dX5_digestHour_33 : decode cX5_digestHour 33 = .ok (.invokevirtual 321, 3) := by decide +kernel
theorem dX5_digestHour_36 : decode cX5_digestHour 36 = .ok (.i2l, 1) := by decide +kernel
theorem dX5_digestHour_37 : decode cX5_digestHour 37 = .ok (.ladd, 1) := by decide +kernel
theorem dX5_digestHour_38 : decode cX5_digestHour 38 = .ok (.lstore 4, 2) := by decide +kernel
theorem dX5_digestHour_40 : decode cX5_digestHour 40 = .ok (.iinc 6 1, 3) := by decide +kernel
theorem dX5_digestHour_43 : decode cX5_digestHour 43 = .ok (.goto (-26), 3) := by decide +kernel
theorem dX5_digestHour_46 : decode cX5_digestHour 46 = .ok (.lload 4, 2) := by decide +kernel
theorem dX5_digestHour_48 : decode cX5_digestHour 48 = .ok (.lreturn, 1) := by decide +kernel
theorem dX5_digestHouse_0 : decode cX5_digestHouse 0 = .ok (.lload_n 1, 1) := by decide +kernel
theorem dX5_digestHouse_1 : decode cX5_digestHouse 1 = .ok (.lstore 4, 2) := by decide +kernel
theorem dX5_digestHouse_3 : decode cX5_digestHouse 3 = .ok (.iconst 0, 1) := by decide +kernel
theorem dX5_digestHouse_4 : decode cX5_digestHouse 4 = .ok (.istore 6, 2) := by decide +kernel
theorem dX5_digestHouse_6 : decode cX5_digestHouse 6 = .ok (.iload 6, 2) := by decide +kernel
theorem dX5_digestHouse_8 : decode cX5_digestHouse 8 = .ok (.bipush 6, 2) := by decide +kernel
theorem dX5_digestHouse_10 : decode cX5_digestHouse 10 = .ok (.if_icmp .gt 26, 3) := by decide +kernel
theorem dX5_digestHouse_13 : decode cX5_digestHouse 13 = .ok (.ldc2_w 301, 3) := by decide +kernel
theorem dX5_digestHouse_16 : decode cX5_digestHouse 16 = .ok (.lload 4, 2) := by decide +kernel
theorem dX5_digestHouse_18 : decode cX5_digestHouse 18 = .ok (.lmul, 1) := by decide +kernel
theorem dX5_digestHouse_19 : decode cX5_digestHouse 19 = .ok (.aload_n 0, 1) := by decide +kernel
theorem dX5_digestHouse_20 : decode cX5_digestHouse 20 = .ok (.iload_n 3, 1) := by decide +kernel
theorem dX5_digestHouse_21 : decode cX5_digestHouse 21 = .ok (.iload 6, 2) := by decide +kernel
theorem dX5_digestHouse_23 : decode cX5_digestHouse 23 = .ok (.invokevirtual 324, 3) := by decide +kernel
theorem dX5_digestHouse_26 : decode cX5_digestHouse 26 = .ok (.i2l, 1) := by decide +kernel
theorem dX5_digestHouse_27 : decode cX5_digestHouse 27 = .ok (.ladd, 1) := by decide +kernel
theorem dX5_digestHouse_28 : decode cX5_digestHouse 28 = .ok (.lstore 4, 2) := by decide +kernel
theorem dX5_digestHouse_30 : decode cX5_digestHouse 30 = .ok (.iinc 6 1, 3) := by decide +kernel
theorem dX5_digestHouse_33 : decode cX5_digestHouse 33 = .ok (.goto (-27), 3) := by decide +kernel
theorem dX5_digestHouse_36 : decode cX5_digestHouse 36 = .ok (.getstatic 327, 3) := by decide +kernel
theorem dX5_digestHouse_39 : decode cX5_digestHouse 39 = .ok (.astore 6, 2) := by decide +kernel
theorem dX5_digestHouse_41 : decode cX5_digestHouse 41 = .ok (.aload 6, 2) := by decide +kernel
theorem dX5_digestHouse_43 : decode cX5_digestHouse 43 = .ok (.arraylength, 1) := by decide +kernel
theorem dX5_digestHouse_44 : decode cX5_digestHouse 44 = .ok (.istore 7, 2) := by decide +kernel
theorem dX5_digestHouse_46 : decode cX5_digestHouse 46 = .ok (.iconst 0, 1) := by decide +kernel
theorem dX5_digestHouse_47 : decode cX5_digestHouse 47 = .ok (.istore 8, 2) := by decide +kernel
theorem dX5_digestHouse_49 : decode cX5_digestHouse 49 = .ok (.iload 8, 2) := by decide +kernel
theorem dX5_digestHouse_51 : decode cX5_digestHouse 51 = .ok (.iload 7, 2) := by decide +kernel
theorem dX5_digestHouse_53 : decode cX5_digestHouse 53 = .ok (.if_icmp .ge 50, 3) := by decide +kernel
theorem dX5_digestHouse_56 : decode cX5_digestHouse 56 = .ok (.aload 6, 2) := by decide +kernel
theorem dX5_digestHouse_58 : decode cX5_digestHouse 58 = .ok (.iload 8, 2) := by decide +kernel
theorem dX5_digestHouse_60 : decode cX5_digestHouse 60 = .ok (.iaload, 1) := by decide +kernel
theorem dX5_digestHouse_61 : decode cX5_digestHouse 61 = .ok (.istore 9, 2) := by decide +kernel
theorem dX5_digestHouse_63 : decode cX5_digestHouse 63 = .ok (.iconst 0, 1) := by decide +kernel
theorem dX5_digestHouse_64 : decode cX5_digestHouse 64 = .ok (.istore 10, 2) := by decide +kernel
theorem dX5_digestHouse_66 : decode cX5_digestHouse 66 = .ok (.iload 10, 2) := by decide +kernel
theorem dX5_digestHouse_68 : decode cX5_digestHouse 68 = .ok (.iconst 2, 1) := by decide +kernel
theorem dX5_digestHouse_69 : decode cX5_digestHouse 69 = .ok (.if_icmp .gt 28, 3) := by decide +kernel
theorem dX5_digestHouse_72 : decode cX5_digestHouse 72 = .ok (.ldc2_w 301, 3) := by decide +kernel
theorem dX5_digestHouse_75 : decode cX5_digestHouse 75 = .ok (.lload 4, 2) := by decide +kernel
theorem dX5_digestHouse_77 : decode cX5_digestHouse 77 = .ok (.lmul, 1) := by decide +kernel
theorem dX5_digestHouse_78 : decode cX5_digestHouse 78 = .ok (.aload_n 0, 1) := by decide +kernel
theorem dX5_digestHouse_79 : decode cX5_digestHouse 79 = .ok (.iload 9, 2) := by decide +kernel
theorem dX5_digestHouse_81 : decode cX5_digestHouse 81 = .ok (.iload_n 3, 1) := by decide +kernel
theorem dX5_digestHouse_82 : decode cX5_digestHouse 82 = .ok (.iload 10, 2) := by decide +kernel
theorem dX5_digestHouse_84 : decode cX5_digestHouse 84 = .ok (.invokevirtual 330, 3) := by decide +kernel
theorem dX5_digestHouse_87 : decode cX5_digestHouse 87 = .ok (.i2l, 1) := by decide +kernel
theorem dX5_digestHouse_88 : decode cX5_digestHouse 88 = .ok (.ladd, 1) := by decide +kernel
theorem dX5_digestHouse_89 : decode cX5_digestHouse 89 = .ok (.lstore 4, 2) := by decide +kernel
theorem dX5_digestHouse_91 : decode cX5_digestHouse 91 = .ok (.iinc 10 1, 3) := by decide +kernel
theorem dX5_digestHouse_94 : decode cX5_digestHouse 94 = .ok (.goto (-28), 3) := by decide +kernel
theorem dX5_digestHouse_97 : decode cX5_digestHouse 97 = .ok (.iinc 8 1, 3) := by decide +kernel
theorem dX5_digestHouse_100 : decode cX5_digestHouse 100 = .ok (.goto (-51), 3) := by decide +kernel
theorem dX5_digestHouse_103 : decode cX5_digestHouse 103 = .ok (.ldc2_w 301, 3) := by decide +kernel
theorem dX5_digestHouse_106 : decode cX5_digestHouse 106 = .ok (.lload 4, 2) := by decide +kernel
theorem dX5_digestHouse_108 : decode cX5_digestHouse 108 = .ok (.lmul, 1) := by decide +kernel
theorem dX5_digestHouse_109 : decode cX5_digestHouse 109 = .ok (.aload_n 0, 1) := by decide +kernel
theorem dX5_digestHouse_110 : decode cX5_digestHouse 110 = .ok (.iload_n 3, 1) := by decide +kernel
theorem dX5_digestHouse_111 : decode cX5_digestHouse 111 = .ok (.iconst 0, 1) := by decide +kernel
theorem dX5_digestHouse_112 : decode cX5_digestHouse 112 = .ok (.invokevirtual 333, 3) := by decide +kernel
theorem dX5_digestHouse_115 : decode cX5_digestHouse 115 = .ok (.i2l, 1) := by decide +kernel
theorem dX5_digestHouse_116 : decode cX5_digestHouse 116 = .ok (.ladd, 1) := by decide +kernel
theorem dX5_digestHouse_117 : decode cX5_digestHouse 117 = .ok (.lstore 4, 2) := by decide +kernel
theorem dX5_digestHouse_119 : decode cX5_digestHouse 119 = .ok (.ldc2_w 301, 3) := by decide +kernel
theorem dX5_digestHouse_122 : decode cX5_digestHouse 122 = .ok (.lload 4, 2) := by decide +kernel
theorem dX5_digestHouse_124 : decode cX5_digestHouse 124 = .ok (.lmul, 1) := by decide +kernel
theorem dX5_digestHouse_125 : decode cX5_digestHouse 125 = .ok (.aload_n 0, 1) := by decide +kernel
theorem dX5_digestHouse_126 : decode cX5_digestHouse 126 = .ok (.iload_n 3, 1) := by decide +kernel
theorem dX5_digestHouse_127 : decode cX5_digestHouse 127 = .ok (.iconst 1, 1) := by decide +kernel
theorem dX5_digestHouse_128 : decode cX5_digestHouse 128 = .ok (.invokevirtual 333, 3) := by decide +kernel
theorem dX5_digestHouse_131 : decode cX5_digestHouse 131 = .ok (.i2l, 1) := by decide +kernel
theorem dX5_digestHouse_132 : decode cX5_digestHouse 132 = .ok (.ladd, 1) := by decide +kernel
theorem dX5_digestHouse_133 : decode cX5_digestHouse 133 = .ok (.lstore 4, 2) := by decide +kernel
theorem dX5_digestHouse_135 : decode cX5_digestHouse 135 = .ok (.lload 4, 2) := by decide +kernel
theorem dX5_digestHouse_137 : decode cX5_digestHouse 137 = .ok (.aload_n 0, 1) := by decide +kernel
theorem dX5_digestHouse_138 : decode cX5_digestHouse 138 = .ok (.iload_n 3, 1) := by decide +kernel
theorem dX5_digestHouse_139 : decode cX5_digestHouse 139 = .ok (.invokevirtual 206, 3) := by decide +kernel
theorem dX5_digestHouse_142 : decode cX5_digestHouse 142 = .ok (.invokestatic 336, 3) := by decide +kernel
theorem dX5_digestHouse_145 : decode cX5_digestHouse 145 = .ok (.lstore 4, 2) := by decide +kernel
theorem dX5_digestHouse_147 : decode cX5_digestHouse 147 = .ok (.ldc2_w 301, 3) := by decide +kernel
theorem dX5_digestHouse_150 : decode cX5_digestHouse 150 = .ok (.lload 4, 2) := by decide +kernel
theorem dX5_digestHouse_152 : decode cX5_digestHouse 152 = .ok (.lmul, 1) := by decide +kernel
theorem dX5_digestHouse_153 : decode cX5_digestHouse 153 = .ok (.aload_n 0, 1) := by decide +kernel
theorem dX5_digestHouse_154 : decode cX5_digestHouse 154 = .ok (.iload_n 3, 1) := by decide +kernel
theorem dX5_digestHouse_155 : decode cX5_digestHouse 155 = .ok (.invokevirtual 339, 3) := by decide +kernel
theorem dX5_digestHouse_158 : decode cX5_digestHouse 158 = .ok (.i2l, 1) := by decide +kernel
theorem dX5_digestHouse_159 : decode cX5_digestHouse 159 = .ok (.ladd, 1) := by decide +kernel
theorem dX5_digestHouse_160 : decode cX5_digestHouse 160 = .ok (.lstore 4, 2) := by decide +kernel
theorem dX5_digestHouse_162 : decode cX5_digestHouse 162 = .ok (.ldc2_w 301, 3) := by decide +kernel
theorem dX5_digestHouse_165 : decode cX5_digestHouse 165 = .ok (.lload 4, 2) := by decide +kernel
theorem dX5_digestHouse_167 : decode cX5_digestHouse 167 = .ok (.lmul, 1) := by decide +kernel
theorem dX5_digestHouse_168 : decode cX5_digestHouse 168 = .ok (.aload_n 0, 1) := by decide +kernel
theorem dX5_digestHouse_169 : decode cX5_digestHouse 169 = .ok (.iload_n 3, 1) := by decide +kernel
theorem dX5_digestHouse_170 : decode cX5_digestHouse 170 = .ok (.invokevirtual 342, 3) := by decide +kernel
theorem dX5_digestHouse_173 : decode cX5_digestHouse 173 = .ok (.i2l, 1) := by decide +kernel
theorem dX5_digestHouse_174 : decode cX5_digestHouse 174 = .ok (.ladd, 1) := by decide +kernel
theorem dX5_digestHouse_175 : decode cX5_digestHouse 175 = .ok (.lstore 4, 2) := by decide +kernel
theorem dX5_digestHouse_177 : decode cX5_digestHouse 177 = .ok (.ldc2_w 301, 3) := by decide +kernel
theorem dX5_digestHouse_180 : decode cX5_digestHouse 180 = .ok (.lload 4, 2) := by decide +kernel
theorem dX5_digestHouse_182 : decode cX5_digestHouse 182 = .ok (.lmul, 1) := by decide +kernel
theorem dX5_digestHouse_183 : decode cX5_digestHouse 183 = .ok (.aload_n 0, 1) := by decide +kernel
theorem dX5_digestHouse_184 : decode cX5_digestHouse 184 = .ok (.iconst 5, 1) := by decide +kernel
theorem dX5_digestHouse_185 : decode cX5_digestHouse 185 = .ok (.iload_n 3, 1) := by decide +kernel
theorem dX5_digestHouse_186 : decode cX5_digestHouse 186 = .ok (.iconst 0, 1) := by decide +kernel
theorem dX5_digestHouse_187 : decode cX5_digestHouse 187 = .ok (.invokevirtual 345, 3) := by decide +kernel
theorem dX5_digestHouse_190 : decode cX5_digestHouse 190 = .ok (.ladd, 1) := by decide +kernel
theorem dX5_digestHouse_191 : decode cX5_digestHouse 191 = .ok (.lstore 4, 2) := by decide +kernel
theorem dX5_digestHouse_193 : decode cX5_digestHouse 193 = .ok (.ldc2_w 301, 3) := by decide +kernel
theorem dX5_digestHouse_196 : decode cX5_digestHouse 196 = .ok (.lload 4, 2) := by decide +kernel
theorem dX5_digestHouse_198 : decode cX5_digestHouse 198 = .ok (.lmul, 1) := by decide +kernel
theorem dX5_digestHouse_199 : decode cX5_digestHouse 199 = .ok (.aload_n 0, 1) := by decide +kernel
theorem dX5_digestHouse_200 : decode cX5_digestHouse 200 = .ok (.iconst 5, 1) := by decide +kernel
theorem dX5_digestHouse_201 : decode cX5_digestHouse 201 = .ok (.iload_n 3, 1) := by decide +kernel
theorem dX5_digestHouse_202 : decode cX5_digestHouse 202 = .ok (.iconst 1, 1) := by decide +kernel
theorem dX5_digestHouse_203 : decode cX5_digestHouse 203 = .ok (.invokevirtual 345, 3) := by decide +kernel
theorem dX5_digestHouse_206 : decode cX5_digestHouse 206 = .ok (.ladd, 1) := by decide +kernel
theorem dX5_digestHouse_207 : decode cX5_digestHouse 207 = .ok (.lreturn, 1) := by decide +kernel
theorem dX5_digestTown_0 : decode cX5_digestTown 0 = .ok (.ldc2_w 301, 3) := by decide +kernel
theorem dX5_digestTown_3 : decode cX5_digestTown 3 = .ok (.lload_n 1, 1) := by decide +kernel
theorem dX5_digestTown_4 : decode cX5_digestTown 4 = .ok (.lmul, 1) := by decide +kernel
theorem dX5_digestTown_5 : decode cX5_digestTown 5 = .ok (.aload_n 0, 1) := by decide +kernel
theorem dX5_digestTown_6 : decode cX5_digestTown 6 = .ok (.invokevirtual 349, 3) := by decide +kernel
theorem dX5_digestTown_9 : decode cX5_digestTown 9 = .ok (.i2l, 1) := by decide +kernel
theorem dX5_digestTown_10 : decode cX5_digestTown 10 = .ok (.ladd, 1) := by decide +kernel
theorem dX5_digestTown_11 : decode cX5_digestTown 11 = .ok (.lstore_n 3, 1) := by decide +kernel
theorem dX5_digestTown_12 : decode cX5_digestTown 12 = .ok (.ldc2_w 301, 3) := by decide +kernel
theorem dX5_digestTown_15 : decode cX5_digestTown 15 = .ok (.lload_n 3, 1) := by decide +kernel
theorem dX5_digestTown_16 : decode cX5_digestTown 16 = .ok (.lmul, 1) := by decide +kernel
theorem dX5_digestTown_17 : decode cX5_digestTown 17 = .ok (.aload_n 0, 1) := by decide +kernel
theorem dX5_digestTown_18 : decode cX5_digestTown 18 = .ok (.invokevirtual 352, 3) := by decide +kernel
theorem dX5_digestTown_21 : decode cX5_digestTown 21 = .ok (.i2l, 1) := by decide +kernel
theorem dX5_digestTown_22 : decode cX5_digestTown 22 = .ok (.ladd, 1) := by decide +kernel
theorem dX5_digestTown_23 : decode cX5_digestTown 23 = .ok (.lstore_n 3, 1) := by decide +kernel
theorem dX5_digestTown_24 : decode cX5_digestTown 24 = .ok (.ldc2_w 301, 3) := by decide +kernel
theorem dX5_digestTown_27 : decode cX5_digestTown 27 = .ok (.lload_n 3, 1) := by decide +kernel
theorem dX5_digestTown_28 : decode cX5_digestTown 28 = .ok (.lmul, 1) := by decide +kernel
theorem dX5_digestTown_29 : decode cX5_digestTown 29 = .ok (.aload_n 0, 1) := by decide +kernel
theorem dX5_digestTown_30 : decode cX5_digestTown 30 = .ok (.invokevirtual 355, 3) := by decide +kernel
theorem dX5_digestTown_33 : decode cX5_digestTown 33 = .ok (.i2l, 1) := by decide +kernel
theorem dX5_digestTown_34 : decode cX5_digestTown 34 = .ok (.ladd, 1) := by decide +kernel
theorem dX5_digestTown_35 : decode cX5_digestTown 35 = .ok (.lstore_n 3, 1) := by decide +kernel
theorem dX5_digestTown_36 : decode cX5_digestTown 36 = .ok (.lload_n 3, 1) := by decide +kernel
theorem dX5_digestTown_37 : decode cX5_digestTown 37 = .ok (.aload_n 0, 1) := by decide +kernel
theorem dX5_digestTown_38 : decode cX5_digestTown 38 = .ok (.invokevirtual 199, 3) := by decide +kernel
theorem dX5_digestTown_41 : decode cX5_digestTown 41 = .ok (.invokestatic 336, 3) := by decide +kernel
theorem dX5_digestTown_44 : decode cX5_digestTown 44 = .ok (.lstore_n 3, 1) := by decide +kernel
theorem dX5_digestTown_45 : decode cX5_digestTown 45 = .ok (.ldc2_w 301, 3) := by decide +kernel
theorem dX5_digestTown_48 : decode cX5_digestTown 48 = .ok (.lload_n 3, 1) := by decide +kernel
theorem dX5_digestTown_49 : decode cX5_digestTown 49 = .ok (.lmul, 1) := by decide +kernel
theorem dX5_digestTown_50 : decode cX5_digestTown 50 = .ok (.aload_n 0, 1) := by decide +kernel
theorem dX5_digestTown_51 : decode cX5_digestTown 51 = .ok (.invokevirtual 358, 3) := by decide +kernel
theorem dX5_digestTown_54 : decode cX5_digestTown 54 = .ok (.i2l, 1) := by decide +kernel
theorem dX5_digestTown_55 : decode cX5_digestTown 55 = .ok (.ladd, 1) := by decide +kernel
theorem dX5_digestTown_56 : decode cX5_digestTown 56 = .ok (.lstore_n 3, 1) := by decide +kernel
theorem dX5_digestTown_57 : decode cX5_digestTown 57 = .ok (.lload_n 3, 1) := by decide +kernel
theorem dX5_digestTown_58 : decode cX5_digestTown 58 = .ok (.aload_n 0, 1) := by decide +kernel
theorem dX5_digestTown_59 : decode cX5_digestTown 59 = .ok (.invokevirtual 213, 3) := by decide +kernel
theorem dX5_digestTown_62 : decode cX5_digestTown 62 = .ok (.invokestatic 336, 3) := by decide +kernel
theorem dX5_digestTown_65 : decode cX5_digestTown 65 = .ok (.lstore_n 3, 1) := by decide +kernel
theorem dX5_digestTown_66 : decode cX5_digestTown 66 = .ok (.ldc2_w 301, 3) := by decide +kernel
theorem dX5_digestTown_69 : decode cX5_digestTown 69 = .ok (.lload_n 3, 1) := by decide +kernel
theorem dX5_digestTown_70 : decode cX5_digestTown 70 = .ok (.lmul, 1) := by decide +kernel
theorem dX5_digestTown_71 : decode cX5_digestTown 71 = .ok (.aload_n 0, 1) := by decide +kernel
theorem dX5_digestTown_72 : decode cX5_digestTown 72 = .ok (.invokevirtual 361, 3) := by decide +kernel
theorem dX5_digestTown_75 : decode cX5_digestTown 75 = .ok (.i2l, 1) := by decide +kernel
theorem dX5_digestTown_76 : decode cX5_digestTown 76 = .ok (.ladd, 1) := by decide +kernel
theorem dX5_digestTown_77 : decode cX5_digestTown 77 = .ok (.lstore_n 3, 1) := by decide +kernel
theorem dX5_digestTown_78 : decode cX5_digestTown 78 = .ok (.aload_n 0, 1) := by decide +kernel
theorem dX5_digestTown_79 : decode cX5_digestTown 79 = .ok (.invokevirtual 229, 3) := by decide +kernel
theorem dX5_digestTown_82 : decode cX5_digestTown 82 = .ok (.lstore 5, 2) := by decide +kernel
theorem dX5_digestTown_84 : decode cX5_digestTown 84 = .ok (.iconst 0, 1) := by decide +kernel
theorem dX5_digestTown_85 : decode cX5_digestTown 85 = .ok (.istore 7, 2) := by decide +kernel
theorem dX5_digestTown_87 : decode cX5_digestTown 87 = .ok (.iload 7, 2) := by decide +kernel
theorem dX5_digestTown_89 : decode cX5_digestTown 89 = .ok (.iconst 2, 1) := by decide +kernel
theorem dX5_digestTown_90 : decode cX5_digestTown 90 = .ok (.if_icmp .gt 24, 3) := by decide +kernel
theorem dX5_digestTown_93 : decode cX5_digestTown 93 = .ok (.ldc2_w 301, 3) := by decide +kernel
theorem dX5_digestTown_96 : decode cX5_digestTown 96 = .ok (.lload_n 3, 1) := by decide +kernel
theorem dX5_digestTown_97 : decode cX5_digestTown 97 = .ok (.lmul, 1) := by decide +kernel
theorem dX5_digestTown_98 : decode cX5_digestTown 98 = .ok (.lload 5, 2) := by decide +kernel
theorem dX5_digestTown_100 : decode cX5_digestTown 100 = .ok (.iload 7, 2) := by decide +kernel
theorem dX5_digestTown_102 : decode cX5_digestTown 102 = .ok (.invokestatic 233, 3) := by decide +kernel
theorem dX5_digestTown_105 : decode cX5_digestTown 105 = .ok (.i2l, 1) := by decide +kernel
theorem dX5_digestTown_106 : decode cX5_digestTown 106 = .ok (.ladd, 1) := by decide +kernel
theorem dX5_digestTown_107 : decode cX5_digestTown 107 = .ok (.lstore_n 3, 1) := by decide +kernel
theorem dX5_digestTown_108 : decode cX5_digestTown 108 = .ok (.iinc 7 1, 3) := by decide +kernel
theorem dX5_digestTown_111 : decode cX5_digestTown 111 = .ok (.goto (-24), 3) := by decide +kernel
theorem dX5_digestTown_114 : decode cX5_digestTown 114 = .ok (.ldc2_w 301, 3) := by decide +kernel
theorem dX5_digestTown_117 : decode cX5_digestTown 117 = .ok (.lload_n 3, 1) := by decide +kernel
theorem dX5_digestTown_118 : decode cX5_digestTown 118 = .ok (.lmul, 1) := by decide +kernel
theorem dX5_digestTown_119 : decode cX5_digestTown 119 = .ok (.aload_n 0, 1) := by decide +kernel
theorem dX5_digestTown_120 : decode cX5_digestTown 120 = .ok (.bipush 7, 2) := by decide +kernel
theorem dX5_digestTown_122 : decode cX5_digestTown 122 = .ok (.bipush 25, 2) := by decide +kernel
theorem dX5_digestTown_124 : decode cX5_digestTown 124 = .ok (.iconst 0, 1) := by decide +kernel
theorem dX5_digestTown_125 : decode cX5_digestTown 125 = .ok (.invokevirtual 364, 3) := by decide +kernel
theorem dX5_digestTown_128 : decode cX5_digestTown 128 = .ok (.i2l, 1) := by decide +kernel
theorem dX5_digestTown_129 : decode cX5_digestTown 129 = .ok (.ladd, 1) := by decide +kernel
theorem dX5_digestTown_130 : decode cX5_digestTown 130 = .ok (.lstore_n 3, 1) := by decide +kernel
theorem dX5_digestTown_131 : decode cX5_digestTown 131 = .ok (.ldc2_w 301, 3) := by decide +kernel
theorem dX5_digestTown_134 : decode cX5_digestTown 134 = .ok (.lload_n 3, 1) := by decide +kernel
theorem dX5_digestTown_135 : decode cX5_digestTown 135 = .ok (.lmul, 1) := by decide +kernel
theorem dX5_digestTown_136 : decode cX5_digestTown 136 = .ok (.aload_n 0, 1) := by decide +kernel
theorem dX5_digestTown_137 : decode cX5_digestTown 137 = .ok (.bipush 7, 2) := by decide +kernel
theorem dX5_digestTown_139 : decode cX5_digestTown 139 = .ok (.bipush 25, 2) := by decide +kernel
theorem dX5_digestTown_141 : decode cX5_digestTown 141 = .ok (.iconst 1, 1) := by decide +kernel
theorem dX5_digestTown_142 : decode cX5_digestTown 142 = .ok (.invokevirtual 364, 3) := by decide +kernel
theorem dX5_digestTown_145 : decode cX5_digestTown 145 = .ok (.i2l, 1) := by decide +kernel
theorem dX5_digestTown_146 : decode cX5_digestTown 146 = .ok (.ladd, 1) := by decide +kernel
theorem dX5_digestTown_147 : decode cX5_digestTown 147 = .ok (.lreturn, 1) := by decide +kernel
theorem dX5_digestPlan_0 : decode cX5_digestPlan 0 = .ok (.ldc2_w 301, 3) := by decide +kernel
theorem dX5_digestPlan_3 : decode cX5_digestPlan 3 = .ok (.ldc2_w 301, 3) := by decide +kernel
theorem dX5_digestPlan_6 : decode cX5_digestPlan 6 = .ok (.lload_n 0, 1) := by decide +kernel
theorem dX5_digestPlan_7 : decode cX5_digestPlan 7 = .ok (.lmul, 1) := by decide +kernel
theorem dX5_digestPlan_8 : decode cX5_digestPlan 8 = .ok (.iload_n 2, 1) := by decide +kernel
theorem dX5_digestPlan_9 : decode cX5_digestPlan 9 = .ok (.iconst 0, 1) := by decide +kernel
theorem dX5_digestPlan_10 : decode cX5_digestPlan 10 = .ok (.invokestatic 203, 3) := by decide +kernel
theorem dX5_digestPlan_13 : decode cX5_digestPlan 13 = .ok (.i2l, 1) := by decide +kernel
theorem dX5_digestPlan_14 : decode cX5_digestPlan 14 = .ok (.ladd, 1) := by decide +kernel
theorem dX5_digestPlan_15 : decode cX5_digestPlan 15 = .ok (.lmul, 1) := by decide +kernel
theorem dX5_digestPlan_16 : decode cX5_digestPlan 16 = .ok (.iload_n 2, 1) := by decide +kernel
theorem dX5_digestPlan_17 : decode cX5_digestPlan 17 = .ok (.iconst 1, 1) := by decide +kernel
theorem dX5_digestPlan_18 : decode cX5_digestPlan 18 = .ok (.invokestatic 203, 3) := by decide +kernel
theorem dX5_digestPlan_21 : decode cX5_digestPlan 21 = .ok (.i2l, 1) := by decide +kernel
theorem dX5_digestPlan_22 : decode cX5_digestPlan 22 = .ok (.ladd, 1) := by decide +kernel
theorem dX5_digestPlan_23 : decode cX5_digestPlan 23 = .ok (.lreturn, 1) := by decide +kernel
theorem dX5_within_0 : decode cX5_within 0 = .ok (.iload_n 0, 1) := by decide +kernel
theorem dX5_within_1 : decode cX5_within 1 = .ok (.iload_n 1, 1) := by decide +kernel
theorem dX5_within_2 : decode cX5_within 2 = .ok (.if_icmp .lt 12, 3) := by decide +kernel
theorem dX5_within_5 : decode cX5_within 5 = .ok (.iload_n 0, 1) := by decide +kernel
theorem dX5_within_6 : decode cX5_within 6 = .ok (.iload_n 2, 1) := by decide +kernel
theorem dX5_within_7 : decode cX5_within 7 = .ok (.if_icmp .gt 7, 3) := by decide +kernel
theorem dX5_within_10 : decode cX5_within 10 = .ok (.iconst 1, 1) := by decide +kernel
theorem dX5_within_11 : decode cX5_within 11 = .ok (.goto 4, 3) := by decide +kernel
theorem dX5_within_14 : decode cX5_within 14 = .ok (.iconst 0, 1) := by decide +kernel
theorem dX5_within_15 : decode cX5_within 15 = .ok (.ireturn, 1) := by decide +kernel
theorem dX5_isHour_0 : decode cX5_isHour 0 = .ok (.iload_n 0, 1) := by decide +kernel
theorem dX5_isHour_1 : decode cX5_isHour 1 = .ok (.iconst 0, 1) := by decide +kernel
theorem dX5_isHour_2 : decode cX5_isHour 2 = .ok (.bipush 39, 2) := by decide +kernel
theorem dX5_isHour_4 : decode cX5_isHour 4 = .ok (.invokestatic 66, 3) := by decide +kernel
theorem dX5_isHour_7 : decode cX5_isHour 7 = .ok (.ireturn, 1) := by decide +kernel
theorem dX5_isSheet_0 : decode cX5_isSheet 0 = .ok (.iload_n 0, 1) := by decide +kernel
theorem dX5_isSheet_1 : decode cX5_isSheet 1 = .ok (.iconst 0, 1) := by decide +kernel
theorem dX5_isSheet_2 : decode cX5_isSheet 2 = .ok (.iconst 3, 1) := by decide +kernel
theorem dX5_isSheet_3 : decode cX5_isSheet 3 = .ok (.invokestatic 66, 3) := by decide +kernel
theorem dX5_isSheet_6 : decode cX5_isSheet 6 = .ok (.ireturn, 1) := by decide +kernel
theorem dX5_isForm_0 : decode cX5_isForm 0 = .ok (.iload_n 0, 1) := by decide +kernel
theorem dX5_isForm_1 : decode cX5_isForm 1 = .ok (.iconst 0, 1) := by decide +kernel
theorem dX5_isForm_2 : decode cX5_isForm 2 = .ok (.iconst 2, 1) := by decide +kernel
theorem dX5_isForm_3 : decode cX5_isForm 3 = .ok (.invokestatic 66, 3) := by decide +kernel
theorem dX5_isForm_6 : decode cX5_isForm 6 = .ok (.ireturn, 1) := by decide +kernel
theorem dX5_mayPinch_0 : decode cX5_mayPinch 0 = .ok (.iload_n 0, 1) := by decide +kernel
theorem dX5_mayPinch_1 : decode cX5_mayPinch 1 = .ok (.invokestatic 117, 3) := by decide +kernel
theorem dX5_mayPinch_4 : decode cX5_mayPinch 4 = .ok (.ifCond .eq 17, 3) := by decide +kernel
theorem dX5_mayPinch_7 : decode cX5_mayPinch 7 = .ok (.iload_n 1, 1) := by decide +kernel
theorem dX5_mayPinch_8 : decode cX5_mayPinch 8 = .ok (.iconst 0, 1) := by decide +kernel
theorem dX5_mayPinch_9 : decode cX5_mayPinch 9 = .ok (.bipush 7, 2) := by decide +kernel
theorem dX5_mayPinch_11 : decode cX5_mayPinch 11 = .ok (.invokestatic 66, 3) := by decide +kernel
theorem dX5_mayPinch_14 : decode cX5_mayPinch 14 = .ok (.ifCond .eq 7, 3) := by decide +kernel
theorem dX5_mayPinch_17 : decode cX5_mayPinch 17 = .ok (.iconst 1, 1) := by decide +kernel
theorem dX5_mayPinch_18 : decode cX5_mayPinch 18 = .ok (.goto 4, 3) := by decide +kernel
theorem dX5_mayPinch_21 : decode cX5_mayPinch 21 = .ok (.iconst 0, 1) := by decide +kernel
theorem dX5_mayPinch_22 : decode cX5_mayPinch 22 = .ok (.ireturn, 1) := by decide +kernel
theorem dX5_isHouse_0 : decode cX5_isHouse 0 = .ok (.iload_n 1, 1) := by decide +kernel
theorem dX5_isHouse_1 : decode cX5_isHouse 1 = .ok (.iconst 0, 1) := by decide +kernel
theorem dX5_isHouse_2 : decode cX5_isHouse 2 = .ok (.aload_n 0, 1) := by decide +kernel
theorem dX5_isHouse_3 : decode cX5_isHouse 3 = .ok (.getfield 26, 3) := by decide +kernel
theorem dX5_isHouse_6 : decode cX5_isHouse 6 = .ok (.getfield 95, 3) := by decide +kernel
theorem dX5_isHouse_9 : decode cX5_isHouse 9 = .ok (.getfield 290, 3) := by decide +kernel
theorem dX5_isHouse_12 : decode cX5_isHouse 12 = .ok (.iconst 1, 1) := by decide +kernel
theorem dX5_isHouse_13 : decode cX5_isHouse 13 = .ok (.isub, 1) := by decide +kernel
theorem dX5_isHouse_14 : decode cX5_isHouse 14 = .ok (.invokestatic 66, 3) := by decide +kernel
theorem dX5_isHouse_17 : decode cX5_isHouse 17 = .ok (.ireturn, 1) := by decide +kernel
theorem dX5_needOf_0 : decode cX5_needOf 0 = .ok (.iload_n 0, 1) := by decide +kernel
theorem dX5_needOf_1 : decode cX5_needOf 1 = .ok (.ifCond .ne 7, 3) := by decide +kernel
theorem dX5_needOf_4 : decode cX5_needOf 4 = .ok (.iconst 1, 1) := by decide +kernel
theorem dX5_needOf_5 : decode cX5_needOf 5 = .ok (.goto 13, 3) := by decide +kernel
theorem dX5_needOf_8 : decode cX5_needOf 8 = .ok (.iload_n 0, 1) := by decide +kernel
theorem dX5_needOf_9 : decode cX5_needOf 9 = .ok (.iconst 1, 1) := by decide +kernel
theorem dX5_needOf_10 : decode cX5_needOf 10 = .ok (.if_icmp .ne 7, 3) := by decide +kernel
theorem dX5_needOf_13 : decode cX5_needOf 13 = .ok (.iconst 2, 1) := by decide +kernel
theorem dX5_needOf_14 : decode cX5_needOf 14 = .ok (.goto 4, 3) := by decide +kernel
theorem dX5_needOf_17 : decode cX5_needOf 17 = .ok (.iconst 4, 1) := by decide +kernel
theorem dX5_needOf_18 : decode cX5_needOf 18 = .ok (.ireturn, 1) := by decide +kernel
theorem dX5_found_0 : decode cX5_found 0 = .ok (.aload_n 0, 1) := by decide +kernel
theorem dX5_found_1 : decode cX5_found 1 = .ok (.iload_n 1, 1) := by decide +kernel
theorem dX5_found_2 : decode cX5_found 2 = .ok (.putfield 296, 3) := by decide +kernel
theorem dX5_found_5 : decode cX5_found 5 = .ok (.bipush (-10), 2) := by decide +kernel
theorem dX5_found_7 : decode cX5_found 7 = .ok (.iload_n 1, 1) := by decide +kernel
theorem dX5_found_8 : decode cX5_found 8 = .ok (.isub, 1) := by decide +kernel
theorem dX5_found_9 : decode cX5_found 9 = .ok (.ireturn, 1) := by decide +kernel
theorem dX5_refusalOfItem_0 : decode cX5_refusalOfItem 0 = .ok (.iload_n 1, 1) := by decide +kernel
theorem dX5_refusalOfItem_1 : decode cX5_refusalOfItem 1 = .ok (.invokestatic 153, 3) := by decide +kernel
theorem dX5_refusalOfItem_4 : decode cX5_refusalOfItem 4 = .ok (.ifCond .eq 10, 3) := by decide +kernel
theorem dX5_refusalOfItem_7 : decode cX5_refusalOfItem 7 = .ok (.iload_n 2, 1) := by decide +kernel
theorem dX5_refusalOfItem_8 : decode cX5_refusalOfItem 8 = .ok (.invokestatic 263, 3) := by decide +kernel
theorem dX5_refusalOfItem_11 : decode cX5_refusalOfItem 11 = .ok (.ifCond .ne 6, 3) := by decide +kernel
theorem dX5_refusalOfItem_14 : decode cX5_refusalOfItem 14 = .ok (.bipush (-2), 2) := by decide +kernel
theorem dX5_refusalOfItem_16 : decode cX5_refusalOfItem 16 = .ok (.ireturn, 1) := by decide +kernel
theorem dX5_refusalOfItem_17 : decode cX5_refusalOfItem 17 = .ok (.aload_n 0, 1) := by decide +kernel
theorem dX5_refusalOfItem_18 : decode cX5_refusalOfItem 18 = .ok (.getfield 62, 3) := by decide +kernel
theorem dX5_refusalOfItem_21 : decode cX5_refusalOfItem 21 = .ok (.iload_n 1, 1) := by decide +kernel
theorem dX5_refusalOfItem_22 : decode cX5_refusalOfItem 22 = .ok (.invokevirtual 156, 3) := by decide +kernel
theorem dX5_refusalOfItem_25 : decode cX5_refusalOfItem 25 = .ok (.ifCond .eq 9, 3) := by decide +kernel
theorem dX5_refusalOfItem_28 : decode cX5_refusalOfItem 28 = .ok (.aload_n 0, 1) := by decide +kernel
theorem dX5_refusalOfItem_29 : decode cX5_refusalOfItem 29 = .ok (.iconst 1, 1) := by decide +kernel
theorem dX5_refusalOfItem_30 : decode cX5_refusalOfItem 30 = .ok (.invokevirtual 159, 3) := by decide +kernel
theorem dX5_refusalOfItem_33 : decode cX5_refusalOfItem 33 = .ok (.ireturn, 1) := by decide +kernel
theorem dX5_refusalOfItem_34 : decode cX5_refusalOfItem 34 = .ok (.aload_n 0, 1) := by decide +kernel
theorem dX5_refusalOfItem_35 : decode cX5_refusalOfItem 35 = .ok (.getfield 62, 3) := by decide +kernel
theorem dX5_refusalOfItem_38 : decode cX5_refusalOfItem 38 = .ok (.getfield 280, 3) := by decide +kernel
theorem dX5_refusalOfItem_41 : decode cX5_refusalOfItem 41 = .ok (.iload_n 1, 1) := by decide +kernel
theorem dX5_refusalOfItem_42 : decode cX5_refusalOfItem 42 = .ok (.iaload, 1) := by decide +kernel
theorem dX5_refusalOfItem_43 : decode cX5_refusalOfItem 43 = .ok (.iload_n 2, 1) := by decide +kernel
theorem dX5_refusalOfItem_44 : decode cX5_refusalOfItem 44 = .ok (.if_icmp .eq 9, 3) := by decide +kernel
theorem dX5_refusalOfItem_47 : decode cX5_refusalOfItem 47 = .ok (.aload_n 0, 1) := by decide +kernel
theorem dX5_refusalOfItem_48 : decode cX5_refusalOfItem 48 = .ok (.iconst 3, 1) := by decide +kernel
theorem dX5_refusalOfItem_49 : decode cX5_refusalOfItem 49 = .ok (.invokevirtual 159, 3) := by decide +kernel
theorem dX5_refusalOfItem_52 : decode cX5_refusalOfItem 52 = .ok (.ireturn, 1) := by decide +kernel
theorem dX5_refusalOfItem_53 : decode cX5_refusalOfItem 53 = .ok (.aload_n 0, 1) := by decide +kernel
theorem dX5_refusalOfItem_54 : decode cX5_refusalOfItem 54 = .ok (.getfield 62, 3) := by decide +kernel
theorem dX5_refusalOfItem_57 : decode cX5_refusalOfItem 57 = .ok (.iload_n 1, 1) := by decide +kernel
theorem dX5_refusalOfItem_58 : decode cX5_refusalOfItem 58 = .ok (.iload_n 3, 1) := by decide +kernel
theorem dX5_refusalOfItem_59 : decode cX5_refusalOfItem 59 = .ok (.iconst 1, 1) := by decide +kernel
theorem dX5_refusalOfItem_60 : decode cX5_refusalOfItem 60 = .ok (.invokevirtual 283, 3) := by decide +kernel
theorem dX5_refusalOfItem_63 : decode cX5_refusalOfItem 63 = .ok (.ifCond .eq 7, 3) := by decide +kernel
theorem dX5_refusalOfItem_66 : decode cX5_refusalOfItem 66 = .ok (.iconst 0, 1) := by decide +kernel
theorem dX5_refusalOfItem_67 : decode cX5_refusalOfItem 67 = .ok (.goto 8, 3) := by decide +kernel
theorem dX5_refusalOfItem_70 : decode cX5_refusalOfItem 70 = .ok (.aload_n 0, 1) := by decide +kernel
theorem dX5_refusalOfItem_71 : decode cX5_refusalOfItem 71 = .ok (.iconst 2, 1) := by decide +kernel
theorem dX5_refusalOfItem_72 : decode cX5_refusalOfItem 72 = .ok (.invokevirtual 159, 3) := by decide +kernel
theorem dX5_refusalOfItem_75 : decode cX5_refusalOfItem 75 = .ok (.ireturn, 1) := by decide +kernel
theorem dX5_textOf_0 : decode cX5_textOf 0 = .ok (.iload_n 1, 1) := by decide +kernel
theorem dX5_textOf_1 : decode cX5_textOf 1 = .ok (.ifCond .ne 10, 3) := by decide +kernel
theorem dX5_textOf_4 : decode cX5_textOf 4 = .ok (.aload_n 0, 1) := by decide +kernel
theorem dX5_textOf_5 : decode cX5_textOf 5 = .ok (.getfield 16, 3) := by decide +kernel
theorem dX5_textOf_8 : decode cX5_textOf 8 = .ok (.goto 7, 3) := by decide +kernel
theorem dX5_textOf_11 : decode cX5_textOf 11 = .ok (.aload_n 0, 1) := by decide +kernel
theorem dX5_textOf_12 : decode cX5_textOf 12 = .ok (.getfield 20, 3) := by decide +kernel
theorem dX5_textOf_15 : decode cX5_textOf 15 = .ok (.areturn, 1) := by decide +kernel
theorem dX5_readTexts_0 : decode cX5_readTexts 0 = .ok (.aload_n 0, 1) := by decide +kernel
theorem dX5_readTexts_1 : decode cX5_readTexts 1 = .ok (.getfield 16, 3) := by decide +kernel
theorem dX5_readTexts_4 : decode cX5_readTexts 4 = .ok (.aload_n 0, 1) := by decide +kernel
theorem dX5_readTexts_5 : decode cX5_readTexts 5 = .ok (.getfield 26, 3) := by decide +kernel
theorem dX5_readTexts_8 : decode cX5_readTexts 8 = .ok (.getfield 95, 3) := by decide +kernel
theorem dX5_readTexts_11 : decode cX5_readTexts 11 = .ok (.aload_n 0, 1) := by decide +kernel
theorem dX5_readTexts_12 : decode cX5_readTexts 12 = .ok (.getfield 16, 3) := by decide +kernel
theorem dX5_readTexts_15 : decode cX5_readTexts 15 = .ok (.invokevirtual 367, 3) := by decide +kernel
theorem dX5_readTexts_18 : decode cX5_readTexts 18 = .ok (.putfield 88, 3) := by decide +kernel
theorem dX5_readTexts_21 : decode cX5_readTexts 21 = .ok (.aload_n 0, 1) := by decide +kernel
theorem dX5_readTexts_22 : decode cX5_readTexts 22 = .ok (.getfield 20, 3) := by decide +kernel
theorem dX5_readTexts_25 : decode cX5_readTexts 25 = .ok (.aload_n 0, 1) := by decide +kernel
theorem dX5_readTexts_26 : decode cX5_readTexts 26 = .ok (.getfield 26, 3) := by decide +kernel
theorem dX5_readTexts_29 : decode cX5_readTexts 29 = .ok (.aload_n 0, 1) := by decide +kernel
theorem dX5_readTexts_30 : decode cX5_readTexts 30 = .ok (.getfield 20, 3) := by decide +kernel
theorem dX5_readTexts_33 : decode cX5_readTexts 33 = .ok (.invokevirtual 371, 3) := by decide +kernel
theorem dX5_readTexts_36 : decode cX5_readTexts 36 = .ok (.putfield 88, 3) := by decide +kernel
theorem dX5_readTexts_39 : decode cX5_readTexts 39 = .ok (.aload_n 0, 1) := by decide +kernel
theorem dX5_readTexts_40 : decode cX5_readTexts 40 = .ok (.invokevirtual 132, 3) := by decide +kernel
theorem dX5_readTexts_43 : decode cX5_readTexts 43 = .ok (.return_, 1) := by decide +kernel
theorem dX5_changed_0 : decode cX5_changed 0 = .ok (.aload_n 0, 1) := by decide +kernel
theorem dX5_changed_1 : decode cX5_changed 1 = .ok (.iconst 0, 1) := by decide +kernel
theorem dX5_changed_2 : decode cX5_changed 2 = .ok (.putfield 374, 3) := by decide +kernel
theorem dX5_changed_5 : decode cX5_changed 5 = .ok (.aload_n 0, 1) := by decide +kernel
theorem dX5_changed_6 : decode cX5_changed 6 = .ok (.iconst 0, 1) := by decide +kernel
theorem dX5_changed_7 : decode cX5_changed 7 = .ok (.putfield 378, 3) := by decide +kernel
theorem dX5_changed_10 : decode cX5_changed 10 = .ok (.return_, 1) := by decide +kernel
theorem dX5_toldCourse_0 : decode cX5_toldCourse 0 = .ok (.aload_n 0, 1) := by decide +kernel
theorem dX5_toldCourse_1 : decode cX5_toldCourse 1 = .ok (.getfield 374, 3) := by decide +kernel
theorem dX5_toldCourse_4 : decode cX5_toldCourse 4 = .ok (.ifCond .ne 19, 3) := by decide +kernel
theorem dX5_toldCourse_7 : decode cX5_toldCourse 7 = .ok (.aload_n 0, 1) := by decide +kernel
theorem dX5_toldCourse_8 : decode cX5_toldCourse 8 = .ok (.getfield 33, 3) := by decide +kernel
theorem dX5_toldCourse_11 : decode cX5_toldCourse 11 = .ok (.aload_n 0, 1) := by decide +kernel
theorem dX5_toldCourse_12 : decode cX5_toldCourse 12 = .ok (.getfield 26, 3) := by decide +kernel
theorem dX5_toldCourse_15 : decode cX5_toldCourse 15 = .ok (.invokevirtual 209, 3) := by decide +kernel
theorem dX5_toldCourse_18 : decode cX5_toldCourse 18 = .ok (.aload_n 0, 1) := by decide +kernel
theorem dX5_toldCourse_19 : decode cX5_toldCourse 19 = .ok (.iconst 1, 1) := by decide +kernel
theorem dX5_toldCourse_20 : decode cX5_toldCourse 20 = .ok (.putfield 374, 3) := by decide +kernel
theorem dX5_toldCourse_23 : decode cX5_toldCourse 23 = .ok (.aload_n 0, 1) := by decide +kernel
theorem dX5_toldCourse_24 : decode cX5_toldCourse 24 = .ok (.getfield 33, 3) := by decide +kernel
theorem dX5_toldCourse_27 : decode cX5_toldCourse 27 = .ok (.areturn, 1) := by decide +kernel
theorem dX5_partOf_0 : decode cX5_partOf 0 = .ok (.iload_n 0, 1) := by decide +kernel
theorem dX5_partOf_1 : decode cX5_partOf 1 = .ok (.ldc 240, 2) := by decide +kernel
theorem dX5_partOf_3 : decode cX5_partOf 3 = .ok (.if_icmp .ne 5, 3) := by decide +kernel
theorem dX5_partOf_6 : decode cX5_partOf 6 = .ok (.iconst (-1), 1) := by decide +kernel
theorem dX5_partOf_7 : decode cX5_partOf 7 = .ok (.ireturn, 1) := by decide +kernel
theorem dX5_partOf_8 : decode cX5_partOf 8 = .ok (.iload_n 1, 1) := by decide +kernel
theorem dX5_partOf_9 : decode cX5_partOf 9 = .ok (.ifCond .ne 10, 3) := by decide +kernel
theorem dX5_partOf_12 : decode cX5_partOf 12 = .ok (.iload_n 0, 1) := by decide +kernel
theorem dX5_partOf_13 : decode cX5_partOf 13 = .ok (.bipush 64, 2) := by decide +kernel
theorem dX5_partOf_15 : decode cX5_partOf 15 = .ok (.irem, 1) := by decide +kernel
theorem dX5_partOf_16 : decode cX5_partOf 16 = .ok (.goto 7, 3) := by decide +kernel
theorem dX5_partOf_19 : decode cX5_partOf 19 = .ok (.iload_n 0, 1) := by decide +kernel
theorem dX5_partOf_20 : decode cX5_partOf 20 = .ok (.bipush 64, 2) := by decide +kernel
theorem dX5_partOf_22 : decode cX5_partOf 22 = .ok (.idiv, 1) := by decide +kernel
theorem dX5_partOf_23 : decode cX5_partOf 23 = .ok (.ireturn, 1) := by decide +kernel
theorem dX5_bestElbow_0 : decode cX5_bestElbow 0 = .ok (.ldc 240, 2) := by decide +kernel
theorem dX5_bestElbow_2 : decode cX5_bestElbow 2 = .ok (.istore_n 1, 1) := by decide +kernel
theorem dX5_bestElbow_3 : decode cX5_bestElbow 3 = .ok (.iconst 0, 1) := by decide +kernel
theorem dX5_bestElbow_4 : decode cX5_bestElbow 4 = .ok (.istore_n 2, 1) := by decide +kernel
theorem dX5_bestElbow_5 : decode cX5_bestElbow 5 = .ok (.iload_n 2, 1) := by decide +kernel
theorem dX5_bestElbow_6 : decode cX5_bestElbow 6 = .ok (.bipush 40, 2) := by decide +kernel
theorem dX5_bestElbow_8 : decode cX5_bestElbow 8 = .ok (.if_icmp .ge 63, 3) := by decide +kernel
theorem dX5_bestElbow_11 : decode cX5_bestElbow 11 = .ok (.aload_n 0, 1) := by decide +kernel
theorem dX5_bestElbow_12 : decode cX5_bestElbow 12 = .ok (.getfield 26, 3) := by decide +kernel
theorem dX5_bestElbow_15 : decode cX5_bestElbow 15 = .ok (.getfield 120, 3) := by decide +kernel
theorem dX5_bestElbow_18 : decode cX5_bestElbow 18 = .ok (.iload_n 2, 1) := by decide +kernel
theorem dX5_bestElbow_19 : decode cX5_bestElbow 19 = .ok (.dup2, 1) := by decide +kernel
theorem dX5_bestElbow_20 : decode cX5_bestElbow 20 = .ok (.iaload, 1) := by decide +kernel
theorem dX5_bestElbow_21 : decode cX5_bestElbow 21 = .ok (.iconst 1, 1) := by decide +kernel
theorem dX5_bestElbow_22 : decode cX5_bestElbow 22 = .ok (.iadd, 1) := by decide +kernel
theorem dX5_bestElbow_23 : decode cX5_bestElbow 23 = .ok (.iastore, 1) := by decide +kernel
theorem dX5_bestElbow_24 : decode cX5_bestElbow 24 = .ok (.aload_n 0, 1) := by decide +kernel
theorem dX5_bestElbow_25 : decode cX5_bestElbow 25 = .ok (.getfield 37, 3) := by decide +kernel
theorem dX5_bestElbow_28 : decode cX5_bestElbow 28 = .ok (.aload_n 0, 1) := by decide +kernel
theorem dX5_bestElbow_29 : decode cX5_bestElbow 29 = .ok (.getfield 26, 3) := by decide +kernel
theorem dX5_bestElbow_32 : decode cX5_bestElbow 32 = .ok (.invokevirtual 209, 3) := by decide +kernel
theorem dX5_bestElbow_35 : decode cX5_bestElbow 35 = .ok (.aload_n 0, 1) := by decide +kernel
theorem dX5_bestElbow_36 : decode cX5_bestElbow 36 = .ok (.getfield 26, 3) := by decide +kernel
theorem dX5_bestElbow_39 : decode cX5_bestElbow 39 = .ok (.getfield 120, 3) := by decide +kernel
theorem dX5_bestElbow_42 : decode cX5_bestElbow 42 = .ok (.iload_n 2, 1) := by decide +kernel
theorem dX5_bestElbow_43 : decode cX5_bestElbow 43 = .ok (.dup2, 1) := by decide +kernel
theorem dX5_bestElbow_44 : decode cX5_bestElbow 44 = .ok (.iaload, 1) := by decide +kernel
theorem dX5_bestElbow_45 : decode cX5_bestElbow 45 = .ok (.iconst 1, 1) := by decide +kernel
theorem dX5_bestElbow_46 : decode cX5_bestElbow 46 = .ok (.isub, 1) := by decide +kernel
theorem dX5_bestElbow_47 : decode cX5_bestElbow 47 = .ok (.iastore, 1) := by decide +kernel
theorem dX5_bestElbow_48 : decode cX5_bestElbow 48 = .ok (.iload_n 1, 1) := by decide +kernel
theorem dX5_bestElbow_49 : decode cX5_bestElbow 49 = .ok (.aload_n 0, 1) := by decide +kernel
theorem dX5_bestElbow_50 : decode cX5_bestElbow 50 = .ok (.getfield 37, 3) := by decide +kernel
theorem dX5_bestElbow_53 : decode cX5_bestElbow 53 = .ok (.invokevirtual 260, 3) := by decide +kernel
theorem dX5_bestElbow_56 : decode cX5_bestElbow 56 = .ok (.bipush 64, 2) := by decide +kernel
theorem dX5_bestElbow_58 : decode cX5_bestElbow 58 = .ok (.imul, 1) := by decide +kernel
theorem dX5_bestElbow_59 : decode cX5_bestElbow 59 = .ok (.iload_n 2, 1) := by decide +kernel
theorem dX5_bestElbow_60 : decode cX5_bestElbow 60 = .ok (.iadd, 1) := by decide +kernel
theorem dX5_bestElbow_61 : decode cX5_bestElbow 61 = .ok (.invokestatic 244, 3) := by decide +kernel
theorem dX5_bestElbow_64 : decode cX5_bestElbow 64 = .ok (.istore_n 1, 1) := by decide +kernel
theorem dX5_bestElbow_65 : decode cX5_bestElbow 65 = .ok (.iinc 2 1, 3) := by decide +kernel
theorem dX5_bestElbow_68 : decode cX5_bestElbow 68 = .ok (.goto (-63), 3) := by decide +kernel
theorem dX5_bestElbow_71 : decode cX5_bestElbow 71 = .ok (.iload_n 1, 1) := by decide +kernel
theorem dX5_bestElbow_72 : decode cX5_bestElbow 72 = .ok (.ireturn, 1) := by decide +kernel
theorem dX5_bestShut_0 : decode cX5_bestShut 0 = .ok (.ldc 240, 2) := by decide +kernel
theorem dX5_bestShut_2 : decode cX5_bestShut 2 = .ok (.istore_n 2, 1) := by decide +kernel
theorem dX5_bestShut_3 : decode cX5_bestShut 3 = .ok (.iconst 0, 1) := by decide +kernel
theorem dX5_bestShut_4 : decode cX5_bestShut 4 = .ok (.istore_n 3, 1) := by decide +kernel
theorem dX5_bestShut_5 : decode cX5_bestShut 5 = .ok (.iload_n 3, 1) := by decide +kernel
theorem dX5_bestShut_6 : decode cX5_bestShut 6 = .ok (.aload_n 0, 1) := by decide +kernel
theorem dX5_bestShut_7 : decode cX5_bestShut 7 = .ok (.getfield 26, 3) := by decide +kernel
theorem dX5_bestShut_10 : decode cX5_bestShut 10 = .ok (.getfield 95, 3) := by decide +kernel
theorem dX5_bestShut_13 : decode cX5_bestShut 13 = .ok (.getfield 290, 3) := by decide +kernel
theorem dX5_bestShut_16 : decode cX5_bestShut 16 = .ok (.if_icmp .ge 51, 3) := by decide +kernel
theorem dX5_bestShut_19 : decode cX5_bestShut 19 = .ok (.iload_n 3, 1) := by decide +kernel
theorem dX5_bestShut_20 : decode cX5_bestShut 20 = .ok (.iload_n 1, 1) := by decide +kernel
theorem dX5_bestShut_21 : decode cX5_bestShut 21 = .ok (.if_icmp .eq 40, 3) := by decide +kernel
theorem dX5_bestShut_24 : decode cX5_bestShut 24 = .ok (.aload_n 0, 1) := by decide +kernel
theorem dX5_bestShut_25 : decode cX5_bestShut 25 = .ok (.getfield 26, 3) := by decide +kernel
theorem dX5_bestShut_28 : decode cX5_bestShut 28 = .ok (.iload_n 3, 1) := by decide +kernel
theorem dX5_bestShut_29 : decode cX5_bestShut 29 = .ok (.putfield 381, 3) := by decide +kernel
theorem dX5_bestShut_32 : decode cX5_bestShut 32 = .ok (.aload_n 0, 1) := by decide +kernel
theorem dX5_bestShut_33 : decode cX5_bestShut 33 = .ok (.getfield 37, 3) := by decide +kernel
theorem dX5_bestShut_36 : decode cX5_bestShut 36 = .ok (.aload_n 0, 1) := by decide +kernel
theorem dX5_bestShut_37 : decode cX5_bestShut 37 = .ok (.getfield 26, 3) := by decide +kernel
theorem dX5_bestShut_40 : decode cX5_bestShut 40 = .ok (.invokevirtual 209, 3) := by decide +kernel
theorem dX5_bestShut_43 : decode cX5_bestShut 43 = .ok (.iload_n 2, 1) := by decide +kernel
theorem dX5_bestShut_44 : decode cX5_bestShut 44 = .ok (.aload_n 0, 1) := by decide +kernel
theorem dX5_bestShut_45 : decode cX5_bestShut 45 = .ok (.getfield 37, 3) := by decide +kernel
theorem dX5_bestShut_48 : decode cX5_bestShut 48 = .ok (.iload_n 1, 1) := by decide +kernel
theorem dX5_bestShut_49 : decode cX5_bestShut 49 = .ok (.invokevirtual 196, 3) := by decide +kernel
theorem dX5_bestShut_52 : decode cX5_bestShut 52 = .ok (.bipush 64, 2) := by decide +kernel
theorem dX5_bestShut_54 : decode cX5_bestShut 54 = .ok (.imul, 1) := by decide +kernel
theorem dX5_bestShut_55 : decode cX5_bestShut 55 = .ok (.iload_n 3, 1) := by decide +kernel
theorem dX5_bestShut_56 : decode cX5_bestShut 56 = .ok (.iadd, 1) := by decide +kernel
theorem dX5_bestShut_57 : decode cX5_bestShut 57 = .ok (.invokestatic 244, 3) := by decide +kernel
theorem dX5_bestShut_60 : decode cX5_bestShut 60 = .ok (.istore_n 2, 1) := by decide +kernel
theorem dX5_bestShut_61 : decode cX5_bestShut 61 = .ok (.iinc 3 1, 3) := by decide +kernel
theorem dX5_bestShut_64 : decode cX5_bestShut 64 = .ok (.goto (-59), 3) := by decide +kernel
theorem dX5_bestShut_67 : decode cX5_bestShut 67 = .ok (.aload_n 0, 1) := by decide +kernel
theorem dX5_bestShut_68 : decode cX5_bestShut 68 = .ok (.getfield 26, 3) := by decide +kernel
theorem dX5_bestShut_71 : decode cX5_bestShut 71 = .ok (.iconst (-1), 1) := by decide +kernel
theorem dX5_bestShut_72 : decode cX5_bestShut 72 = .ok (.putfield 381, 3) := by decide +kernel
theorem dX5_bestShut_75 : decode cX5_bestShut 75 = .ok (.iload_n 2, 1) := by decide +kernel
theorem dX5_bestShut_76 : decode cX5_bestShut 76 = .ok (.ireturn, 1) := by decide +kernel
theorem dX5_bestPatch_0 : decode cX5_bestPatch 0 = .ok (.ldc 240, 2) := by decide +kernel
theorem dX5_bestPatch_2 : decode cX5_bestPatch 2 = .ok (.istore_n 1, 1) := by decide +kernel
theorem dX5_bestPatch_3 : decode cX5_bestPatch 3 = .ok (.iconst 0, 1) := by decide +kernel
theorem dX5_bestPatch_4 : decode cX5_bestPatch 4 = .ok (.istore_n 2, 1) := by decide +kernel
theorem dX5_bestPatch_5 : decode cX5_bestPatch 5 = .ok (.iload_n 2, 1) := by decide +kernel
theorem dX5_bestPatch_6 : decode cX5_bestPatch 6 = .ok (.aload_n 0, 1) := by decide +kernel
theorem dX5_bestPatch_7 : decode cX5_bestPatch 7 = .ok (.getfield 26, 3) := by decide +kernel
theorem dX5_bestPatch_10 : decode cX5_bestPatch 10 = .ok (.getfield 135, 3) := by decide +kernel
theorem dX5_bestPatch_13 : decode cX5_bestPatch 13 = .ok (.if_icmp .ge 49, 3) := by decide +kernel
theorem dX5_bestPatch_16 : decode cX5_bestPatch 16 = .ok (.aload_n 0, 1) := by decide +kernel
theorem dX5_bestPatch_17 : decode cX5_bestPatch 17 = .ok (.getfield 26, 3) := by decide +kernel
theorem dX5_bestPatch_20 : decode cX5_bestPatch 20 = .ok (.iconst (-1), 1) := by decide +kernel
theorem dX5_bestPatch_21 : decode cX5_bestPatch 21 = .ok (.iconst 1, 1) := by decide +kernel
theorem dX5_bestPatch_22 : decode cX5_bestPatch 22 = .ok (.iload_n 2, 1) := by decide +kernel
theorem dX5_bestPatch_23 : decode cX5_bestPatch 23 = .ok (.ishl, 1) := by decide +kernel
theorem dX5_bestPatch_24 : decode cX5_bestPatch 24 = .ok (.ixor, 1) := by decide +kernel
theorem dX5_bestPatch_25 : decode cX5_bestPatch 25 = .ok (.putfield 384, 3) := by decide +kernel
theorem dX5_bestPatch_28 : decode cX5_bestPatch 28 = .ok (.aload_n 0, 1) := by decide +kernel
theorem dX5_bestPatch_29 : decode cX5_bestPatch 29 = .ok (.getfield 37, 3) := by decide +kernel
theorem dX5_bestPatch_32 : decode cX5_bestPatch 32 = .ok (.aload_n 0, 1) := by decide +kernel
theorem dX5_bestPatch_33 : decode cX5_bestPatch 33 = .ok (.getfield 26, 3) := by decide +kernel
theorem dX5_bestPatch_36 : decode cX5_bestPatch 36 = .ok (.invokevirtual 209, 3) := by decide +kernel
theorem dX5_bestPatch_39 : decode cX5_bestPatch 39 = .ok (.iload_n 1, 1) := by decide +kernel
theorem dX5_bestPatch_40 : decode cX5_bestPatch 40 = .ok (.aload_n 0, 1) := by decide +kernel
theorem dX5_bestPatch_41 : decode cX5_bestPatch 41 = .ok (.getfield 37, 3) := by decide +kernel
theorem dX5_bestPatch_44 : decode cX5_bestPatch 44 = .ok (.invokevirtual 260, 3) := by decide +kernel
theorem dX5_bestPatch_47 : decode cX5_bestPatch 47 = .ok (.bipush 64, 2) := by decide +kernel
theorem dX5_bestPatch_49 : decode cX5_bestPatch 49 = .ok (.imul, 1) := by decide +kernel
theorem dX5_bestPatch_50 : decode cX5_bestPatch 50 = .ok (.iload_n 2, 1) := by decide +kernel
theorem dX5_bestPatch_51 : decode cX5_bestPatch 51 = .ok (.iadd, 1) := by decide +kernel
theorem dX5_bestPatch_52 : decode cX5_bestPatch 52 = .ok (.invokestatic 244, 3) := by decide +kernel
theorem dX5_bestPatch_55 : decode cX5_bestPatch 55 = .ok (.istore_n 1, 1) := by decide +kernel
theorem dX5_bestPatch_56 : decode cX5_bestPatch 56 = .ok (.iinc 2 1, 3) := by decide +kernel
theorem dX5_bestPatch_59 : decode cX5_bestPatch 59 = .ok (.goto (-54), 3) := by decide +kernel
theorem dX5_bestPatch_62 : decode cX5_bestPatch 62 = .ok (.aload_n 0, 1) := by decide +kernel
theorem dX5_bestPatch_63 : decode cX5_bestPatch 63 = .ok (.getfield 26, 3) := by decide +kernel
theorem dX5_bestPatch_66 : decode cX5_bestPatch 66 = .ok (.iconst (-1), 1) := by decide +kernel
theorem dX5_bestPatch_67 : decode cX5_bestPatch 67 = .ok (.putfield 384, 3) := by decide +kernel
theorem dX5_bestPatch_70 : decode cX5_bestPatch 70 = .ok (.iload_n 1, 1) := by decide +kernel
theorem dX5_bestPatch_71 : decode cX5_bestPatch 71 = .ok (.ireturn, 1) := by decide +kernel
theorem dX5_tryWide_0 : decode cX5_tryWide 0 = .ok (.aload_n 0, 1) := by decide +kernel
theorem dX5_tryWide_1 : decode cX5_tryWide 1 = .ok (.getfield 26, 3) := by decide +kernel
theorem dX5_tryWide_4 : decode cX5_tryWide 4 = .ok (.getfield 95, 3) := by decide +kernel
theorem dX5_tryWide_7 : decode cX5_tryWide 7 = .ok (.getfield 107, 3) := by decide +kernel
theorem dX5_tryWide_10 : decode cX5_tryWide 10 = .ok (.iload_n 1, 1) := by decide +kernel
theorem dX5_tryWide_11 : decode cX5_tryWide 11 = .ok (.iaload, 1) := by decide +kernel
theorem dX5_tryWide_12 : decode cX5_tryWide 12 = .ok (.istore_n 3, 1) := by decide +kernel
theorem dX5_tryWide_13 : decode cX5_tryWide 13 = .ok (.aload_n 0, 1) := by decide +kernel
theorem dX5_tryWide_14 : decode cX5_tryWide 14 = .ok (.getfield 26, 3) := by decide +kernel
theorem dX5_tryWide_17 : decode cX5_tryWide 17 = .ok (.getfield 95, 3) := by decide +kernel
theorem dX5_tryWide_20 : decode cX5_tryWide 20 = .ok (.getfield 107, 3) := by decide +kernel
theorem dX5_tryWide_23 : decode cX5_tryWide 23 = .ok (.iload_n 1, 1) := by decide +kernel
theorem dX5_tryWide_24 : decode cX5_tryWide 24 = .ok (.iload_n 2, 1) := by decide +kernel
theorem dX5_tryWide_25 : decode cX5_tryWide 25 = .ok (.iastore, 1) := by decide +kernel
theorem dX5_tryWide_26 : decode cX5_tryWide 26 = .ok (.aload_n 0, 1) := by decide +kernel
theorem dX5_tryWide_27 : decode cX5_tryWide 27 = .ok (.getfield 37, 3) := by decide +kernel
theorem dX5_tryWide_30 : decode cX5_tryWide 30 = .ok (.aload_n 0, 1) := by decide +kernel
theorem dX5_tryWide_31 : decode cX5_tryWide 31 = .ok (.getfield 26, 3) := by decide +kernel
theorem dX5_tryWide_34 : decode cX5_tryWide 34 = .ok (.invokevirtual 209, 3) := by decide +kernel
theorem dX5_tryWide_37 : decode cX5_tryWide 37 = .ok (.aload_n 0, 1) := by decide +kernel
theorem dX5_tryWide_38 : decode cX5_tryWide 38 = .ok (.getfield 26, 3) := by decide +kernel
theorem dX5_tryWide_41 : decode cX5_tryWide 41 = .ok (.getfield 95, 3) := by decide +kernel
theorem dX5_tryWide_44 : decode cX5_tryWide 44 = .ok (.getfield 107, 3) := by decide +kernel
theorem dX5_tryWide_47 : decode cX5_tryWide 47 = .ok (.iload_n 1, 1) := by decide +kernel
theorem dX5_tryWide_48 : decode cX5_tryWide 48 = .ok (.iload_n 3, 1) := by decide +kernel
theorem dX5_tryWide_49 : decode cX5_tryWide 49 = .ok (.iastore, 1) := by decide +kernel
theorem dX5_tryWide_50 : decode cX5_tryWide 50 = .ok (.return_, 1) := by decide +kernel
theorem dX5_comesOut_0 : decode cX5_comesOut 0 = .ok (.iconst 0, 1) := by decide +kernel
theorem dX5_comesOut_1 : decode cX5_comesOut 1 = .ok (.istore_n 2, 1) := by decide +kernel
theorem dX5_comesOut_2 : decode cX5_comesOut 2 = .ok (.iload_n 2, 1) := by decide +kernel
theorem dX5_comesOut_3 : decode cX5_comesOut 3 = .ok (.aload_n 0, 1) := by decide +kernel
theorem dX5_comesOut_4 : decode cX5_comesOut 4 = .ok (.getfield 216, 3) := by decide +kernel
theorem dX5_comesOut_7 : decode cX5_comesOut 7 = .ok (.if_icmp .ge 49, 3) := by decide +kernel
theorem dX5_comesOut_10 : decode cX5_comesOut 10 = .ok (.aload_n 0, 1) := by decide +kernel
theorem dX5_comesOut_11 : decode cX5_comesOut 11 = .ok (.aload_n 0, 1) := by decide +kernel
theorem dX5_comesOut_12 : decode cX5_comesOut 12 = .ok (.getfield 53, 3) := by decide +kernel
theorem dX5_comesOut_15 : decode cX5_comesOut 15 = .ok (.iload_n 2, 1) := by decide +kernel
theorem dX5_comesOut_16 : decode cX5_comesOut 16 = .ok (.iaload, 1) := by decide +kernel
theorem dX5_comesOut_17 : decode cX5_comesOut 17 = .ok (.invokevirtual 91, 3) := by decide +kernel
theorem dX5_comesOut_20 : decode cX5_comesOut 20 = .ok (.ifCond .eq 28, 3) := by decide +kernel
theorem dX5_comesOut_23 : decode cX5_comesOut 23 = .ok (.aload_n 1, 1) := by decide +kernel
theorem dX5_comesOut_24 : decode cX5_comesOut 24 = .ok (.aload_n 0, 1) := by decide +kernel
theorem dX5_comesOut_25 : decode cX5_comesOut 25 = .ok (.getfield 50, 3) := by decide +kernel
theorem dX5_comesOut_28 : decode cX5_comesOut 28 = .ok (.iload_n 2, 1) := by decide +kernel
theorem dX5_comesOut_29 : decode cX5_comesOut 29 = .ok (.iaload, 1) := by decide +kernel
theorem dX5_comesOut_30 : decode cX5_comesOut 30 = .ok (.aload_n 0, 1) := by decide +kernel
theorem dX5_comesOut_31 : decode cX5_comesOut 31 = .ok (.getfield 53, 3) := by decide +kernel
theorem dX5_comesOut_34 : decode cX5_comesOut 34 = .ok (.iload_n 2, 1) := by decide +kernel
theorem dX5_comesOut_35 : decode cX5_comesOut 35 = .ok (.iaload, 1) := by decide +kernel
theorem dX5_comesOut_36 : decode cX5_comesOut 36 = .ok (.invokevirtual 184, 3) := by decide +kernel
theorem dX5_comesOut_39 : decode cX5_comesOut 39 = .ok (.aload_n 0, 1) := by decide +kernel
theorem dX5_comesOut_40 : decode cX5_comesOut 40 = .ok (.getfield 56, 3) := by decide +kernel
theorem dX5_comesOut_43 : decode cX5_comesOut 43 = .ok (.iload_n 2, 1) := by decide +kernel
theorem dX5_comesOut_44 : decode cX5_comesOut 44 = .ok (.iaload, 1) := by decide +kernel
theorem dX5_comesOut_45 : decode cX5_comesOut 45 = .ok (.if_icmp .eq 5, 3) := by decide +kernel
theorem dX5_comesOut_48 : decode cX5_comesOut 48 = .ok (.iconst 0, 1) := by decide +kernel
theorem dX5_comesOut_49 : decode cX5_comesOut 49 = .ok (.ireturn, 1) := by decide +kernel
theorem dX5_comesOut_50 : decode cX5_comesOut 50 = .ok (.iinc 2 1, 3) := by decide +kernel
theorem dX5_comesOut_53 : decode cX5_comesOut 53 = .ok (.goto (-51), 3) := by decide +kernel
theorem dX5_comesOut_56 : decode cX5_comesOut 56 = .ok (.iconst 1, 1) := by decide +kernel
theorem dX5_comesOut_57 : decode cX5_comesOut 57 = .ok (.ireturn, 1) := by decide +kernel
theorem dX5_possibleStarts_0 : decode cX5_possibleStarts 0 = .ok (.aload_n 0, 1) := by decide +kernel
theorem dX5_possibleStarts_1 : decode cX5_possibleStarts 1 = .ok (.getfield 26, 3) := by decide +kernel
theorem dX5_possibleStarts_4 : decode cX5_possibleStarts 4 = .ok (.getfield 123, 3) := by decide +kernel
theorem dX5_possibleStarts_7 : decode cX5_possibleStarts 7 = .ok (.istore_n 1, 1) := by decide +kernel
theorem dX5_possibleStarts_8 : decode cX5_possibleStarts 8 = .ok (.lconst 0, 1) := by decide +kernel
theorem dX5_possibleStarts_9 : decode cX5_possibleStarts 9 = .ok (.lstore_n 2, 1) := by decide +kernel
theorem dX5_possibleStarts_10 : decode cX5_possibleStarts 10 = .ok (.iconst 0, 1) := by decide +kernel
theorem dX5_possibleStarts_11 : decode cX5_possibleStarts 11 = .ok (.istore 4, 2) := by decide +kernel
theorem dX5_possibleStarts_13 : decode cX5_possibleStarts 13 = .ok (.iload 4, 2) := by decide +kernel
theorem dX5_possibleStarts_15 : decode cX5_possibleStarts 15 = .ok (.bipush 60, 2) := by decide +kernel
theorem dX5_possibleStarts_17 : decode cX5_possibleStarts 17 = .ok (.if_icmp .gt 47, 3) := by decide +kernel
theorem dX5_possibleStarts_20 : decode cX5_possibleStarts 20 = .ok (.aload_n 0, 1) := by decide +kernel
theorem dX5_possibleStarts_21 : decode cX5_possibleStarts 21 = .ok (.getfield 26, 3) := by decide +kernel
theorem dX5_possibleStarts_24 : decode cX5_possibleStarts 24 = .ok (.iload 4, 2) := by decide +kernel
theorem dX5_possibleStarts_26 : decode cX5_possibleStarts 26 = .ok (.putfield 123, 3) := by decide +kernel
theorem dX5_possibleStarts_29 : decode cX5_possibleStarts 29 = .ok (.aload_n 0, 1) := by decide +kernel
theorem dX5_possibleStarts_30 : decode cX5_possibleStarts 30 = .ok (.getfield 37, 3) := by decide +kernel
theorem dX5_possibleStarts_33 : decode cX5_possibleStarts 33 = .ok (.aload_n 0, 1) := by decide +kernel
theorem dX5_possibleStarts_34 : decode cX5_possibleStarts 34 = .ok (.getfield 26, 3) := by decide +kernel
theorem dX5_possibleStarts_37 : decode cX5_possibleStarts 37 = .ok (.invokevirtual 209, 3) := by decide +kernel
theorem dX5_possibleStarts_40 : decode cX5_possibleStarts 40 = .ok (.aload_n 0, 1) := by decide +kernel
theorem dX5_possibleStarts_41 : decode cX5_possibleStarts 41 = .ok (.aload_n 0, 1) := by decide +kernel
theorem dX5_possibleStarts_42 : decode cX5_possibleStarts 42 = .ok (.getfield 37, 3) := by decide +kernel
theorem dX5_possibleStarts_45 : decode cX5_possibleStarts 45 = .ok (.invokevirtual 222, 3) := by decide +kernel
theorem dX5_possibleStarts_48 : decode cX5_possibleStarts 48 = .ok (.ifCond .eq 10, 3) := by decide +kernel
theorem dX5_possibleStarts_51 : decode cX5_possibleStarts 51 = .ok (.lload_n 2, 1) := by decide +kernel
theorem dX5_possibleStarts_52 : decode cX5_possibleStarts 52 = .ok (.lconst 1, 1) := by decide +kernel
theorem dX5_possibleStarts_53 : decode cX5_possibleStarts 53 = .ok (.iload 4, 2) := by decide +kernel
theorem dX5_possibleStarts_55 : decode cX5_possibleStarts 55 = .ok (.lshl, 1) := by decide +kernel
theorem dX5_possibleStarts_56 : decode cX5_possibleStarts 56 = .ok (.lor, 1) := by decide +kernel
theorem dX5_possibleStarts_57 : decode cX5_possibleStarts 57 = .ok (.lstore_n 2, 1) := by decide +kernel
theorem dX5_possibleStarts_58 : decode cX5_possibleStarts 58 = .ok (.iinc 4 1, 3) := by decide +kernel
theorem dX5_possibleStarts_61 : decode cX5_possibleStarts 61 = .ok (.goto (-48), 3) := by decide +kernel
theorem dX5_possibleStarts_64 : decode cX5_possibleStarts 64 = .ok (.aload_n 0, 1) := by decide +kernel
theorem dX5_possibleStarts_65 : decode cX5_possibleStarts 65 = .ok (.getfield 26, 3) := by decide +kernel
theorem dX5_possibleStarts_68 : decode cX5_possibleStarts 68 = .ok (.iload_n 1, 1) := by decide +kernel
theorem dX5_possibleStarts_69 : decode cX5_possibleStarts 69 = .ok (.putfield 123, 3) := by decide +kernel
theorem dX5_possibleStarts_72 : decode cX5_possibleStarts 72 = .ok (.lload_n 2, 1) := by decide +kernel
theorem dX5_possibleStarts_73 : decode cX5_possibleStarts 73 = .ok (.lreturn, 1) := by decide +kernel
theorem dX5_startsPart_0 : decode cX5_startsPart 0 = .ok (.iload_n 2, 1) := by decide +kernel
theorem dX5_startsPart_1 : decode cX5_startsPart 1 = .ok (.ifCond .ne 8, 3) := by decide +kernel
theorem dX5_startsPart_4 : decode cX5_startsPart 4 = .ok (.lload_n 0, 1) := by decide +kernel
theorem dX5_startsPart_5 : decode cX5_startsPart 5 = .ok (.invokestatic 387, 3) := by decide +kernel
theorem dX5_startsPart_8 : decode cX5_startsPart 8 = .ok (.ireturn, 1) := by decide +kernel
theorem dX5_startsPart_9 : decode cX5_startsPart 9 = .ok (.lload_n 0, 1) := by decide +kernel
theorem dX5_startsPart_10 : decode cX5_startsPart 10 = .ok (.lconst 0, 1) := by decide +kernel
theorem dX5_startsPart_11 : decode cX5_startsPart 11 = .ok (.lcmp, 1) := by decide +kernel
theorem dX5_startsPart_12 : decode cX5_startsPart 12 = .ok (.ifCond .ne 5, 3) := by decide +kernel
theorem dX5_startsPart_15 : decode cX5_startsPart 15 = .ok (.iconst (-1), 1) := by decide +kernel
theorem dX5_startsPart_16 : decode cX5_startsPart 16 = .ok (.ireturn, 1) := by decide +kernel
theorem dX5_startsPart_17 : decode cX5_startsPart 17 = .ok (.iload_n 2, 1) := by decide +kernel
theorem dX5_startsPart_18 : decode cX5_startsPart 18 = .ok (.iconst 1, 1) := by decide +kernel
theorem dX5_startsPart_19 : decode cX5_startsPart 19 = .ok (.if_icmp .ne 10, 3) := by decide +kernel
theorem dX5_startsPart_22 : decode cX5_startsPart 22 = .ok (.lload_n 0, 1) := by decide +kernel
theorem dX5_startsPart_23 : decode cX5_startsPart 23 = .ok (.invokestatic 391, 3) := by decide +kernel
theorem dX5_startsPart_26 : decode cX5_startsPart 26 = .ok (.goto 10, 3) := by decide +kernel
theorem dX5_startsPart_29 : decode cX5_startsPart 29 = .ok (.bipush 63, 2) := by decide +kernel
theorem dX5_startsPart_31 : decode cX5_startsPart 31 = .ok (.lload_n 0, 1) := by decide +kernel
theorem dX5_startsPart_32 : decode cX5_startsPart 32 = .ok (.invokestatic 394, 3) := by decide +kernel
theorem dX5_startsPart_35 : decode cX5_startsPart 35 = .ok (.isub, 1) := by decide +kernel
theorem dX5_startsPart_36 : decode cX5_startsPart 36 = .ok (.ireturn, 1) := by decide +kernel
theorem dX5_tallyWidths_0 : decode cX5_tallyWidths 0 = .ok (.iconst 0, 1) := by decide +kernel
theorem dX5_tallyWidths_1 : decode cX5_tallyWidths 1 = .ok (.istore_n 2, 1) := by decide +kernel
theorem dX5_tallyWidths_2 : decode cX5_tallyWidths 2 = .ok (.iload_n 2, 1) := by decide +kernel
theorem dX5_tallyWidths_3 : decode cX5_tallyWidths 3 = .ok (.aload_n 0, 1) := by decide +kernel
theorem dX5_tallyWidths_4 : decode cX5_tallyWidths 4 = .ok (.getfield 47, 3) := by decide +kernel
theorem dX5_tallyWidths_7 : decode cX5_tallyWidths 7 = .ok (.arraylength, 1) := by decide +kernel
theorem dX5_tallyWidths_8 : decode cX5_tallyWidths 8 = .ok (.if_icmp .ge 16, 3) := by decide +kernel
theorem dX5_tallyWidths_11 : decode cX5_tallyWidths 11 = .ok (.aload_n 0, 1) := by decide +kernel
theorem dX5_tallyWidths_12 : decode cX5_tallyWidths 12 = .ok (.getfield 47, 3) := by decide +kernel
theorem dX5_tallyWidths_15 : decode cX5_tallyWidths 15 = .ok (.iload_n 2, 1) := by decide +kernel
theorem dX5_tallyWidths_16 : decode cX5_tallyWidths 16 = .ok (.iconst 0, 1) := by decide +kernel
theorem dX5_tallyWidths_17 : decode cX5_tallyWidths 17 = .ok (.iastore, 1) := by decide +kernel
theorem dX5_tallyWidths_18 : decode cX5_tallyWidths 18 = .ok (.iinc 2 1, 3) := by decide +kernel
theorem dX5_tallyWidths_21 : decode cX5_tallyWidths 21 = .ok (.goto (-19), 3) := by decide +kernel
theorem dX5_tallyWidths_24 : decode cX5_tallyWidths 24 = .ok (.iconst 1, 1) := by decide +kernel
theorem dX5_tallyWidths_25 : decode cX5_tallyWidths 25 = .ok (.istore_n 2, 1) := by decide +kernel
theorem dX5_tallyWidths_26 : decode cX5_tallyWidths 26 = .ok (.iload_n 2, 1) := by decide +kernel
theorem dX5_tallyWidths_27 : decode cX5_tallyWidths 27 = .ok (.bipush 9, 2) := by decide +kernel
theorem dX5_tallyWidths_29 : decode cX5_tallyWidths 29 = .ok (.if_icmp .gt 31, 3) := by decide +kernel
theorem dX5_tallyWidths_32 : decode cX5_tallyWidths 32 = .ok (.aload_n 0, 1) := by decide +kernel
theorem dX5_tallyWidths_33 : decode cX5_tallyWidths 33 = .ok (.iload_n 1, 1) := by decide +kernel
theorem dX5_tallyWidths_34 : decode cX5_tallyWidths 34 = .ok (.iload_n 2, 1) := by decide +kernel
theorem dX5_tallyWidths_35 : decode cX5_tallyWidths 35 = .ok (.invokevirtual 226, 3) := by decide +kernel
theorem dX5_tallyWidths_38 : decode cX5_tallyWidths 38 = .ok (.aload_n 0, 1) := by decide +kernel
theorem dX5_tallyWidths_39 : decode cX5_tallyWidths 39 = .ok (.aload_n 0, 1) := by decide +kernel
theorem dX5_tallyWidths_40 : decode cX5_tallyWidths 40 = .ok (.getfield 37, 3) := by decide +kernel
theorem dX5_tallyWidths_43 : decode cX5_tallyWidths 43 = .ok (.invokevirtual 222, 3) := by decide +kernel
theorem dX5_tallyWidths_46 : decode cX5_tallyWidths 46 = .ok (.ifCond .eq 8, 3) := by decide +kernel
theorem dX5_tallyWidths_49 : decode cX5_tallyWidths 49 = .ok (.aload_n 0, 1) := by decide +kernel
theorem dX5_tallyWidths_50 : decode cX5_tallyWidths 50 = .ok (.iload_n 1, 1) := by decide +kernel
theorem dX5_tallyWidths_51 : decode cX5_tallyWidths 51 = .ok (.invokevirtual 397, 3) := by decide +kernel
theorem dX5_tallyWidths_54 : decode cX5_tallyWidths 54 = .ok (.iinc 2 1, 3) := by decide +kernel
theorem dX5_tallyWidths_57 : decode cX5_tallyWidths 57 = .ok (.goto (-31), 3) := by decide +kernel
theorem dX5_tallyWidths_60 : decode cX5_tallyWidths 60 = .ok (.return_, 1) := by decide +kernel
theorem dX5_tallyHours_0 : decode cX5_tallyHours 0 = .ok (.iconst 0, 1) := by decide +kernel
theorem dX5_tallyHours_1 : decode cX5_tallyHours 1 = .ok (.istore_n 2, 1) := by decide +kernel
theorem dX5_tallyHours_2 : decode cX5_tallyHours 2 = .ok (.iload_n 2, 1) := by decide +kernel
theorem dX5_tallyHours_3 : decode cX5_tallyHours 3 = .ok (.bipush 40, 2) := by decide +kernel
theorem dX5_tallyHours_5 : decode cX5_tallyHours 5 = .ok (.if_icmp .ge 42, 3) := by decide +kernel
theorem dX5_tallyHours_8 : decode cX5_tallyHours 8 = .ok (.aload_n 0, 1) := by decide +kernel
theorem dX5_tallyHours_9 : decode cX5_tallyHours 9 = .ok (.getfield 37, 3) := by decide +kernel
theorem dX5_tallyHours_12 : decode cX5_tallyHours 12 = .ok (.iload_n 2, 1) := by decide +kernel
theorem dX5_tallyHours_13 : decode cX5_tallyHours 13 = .ok (.iload_n 1, 1) := by decide +kernel
theorem dX5_tallyHours_14 : decode cX5_tallyHours 14 = .ok (.invokevirtual 184, 3) := by decide +kernel
theorem dX5_tallyHours_17 : decode cX5_tallyHours 17 = .ok (.istore_n 3, 1) := by decide +kernel
theorem dX5_tallyHours_18 : decode cX5_tallyHours 18 = .ok (.iload_n 3, 1) := by decide +kernel
theorem dX5_tallyHours_19 : decode cX5_tallyHours 19 = .ok (.iconst 0, 1) := by decide +kernel
theorem dX5_tallyHours_20 : decode cX5_tallyHours 20 = .ok (.iconst 4, 1) := by decide +kernel
theorem dX5_tallyHours_21 : decode cX5_tallyHours 21 = .ok (.invokestatic 66, 3) := by decide +kernel
theorem dX5_tallyHours_24 : decode cX5_tallyHours 24 = .ok (.ifCond .eq 17, 3) := by decide +kernel
theorem dX5_tallyHours_27 : decode cX5_tallyHours 27 = .ok (.aload_n 0, 1) := by decide +kernel
theorem dX5_tallyHours_28 : decode cX5_tallyHours 28 = .ok (.getfield 47, 3) := by decide +kernel
theorem dX5_tallyHours_31 : decode cX5_tallyHours 31 = .ok (.iload_n 2, 1) := by decide +kernel
theorem dX5_tallyHours_32 : decode cX5_tallyHours 32 = .ok (.iconst 5, 1) := by decide +kernel
theorem dX5_tallyHours_33 : decode cX5_tallyHours 33 = .ok (.imul, 1) := by decide +kernel
theorem dX5_tallyHours_34 : decode cX5_tallyHours 34 = .ok (.iload_n 3, 1) := by decide +kernel
theorem dX5_tallyHours_35 : decode cX5_tallyHours 35 = .ok (.iadd, 1) := by decide +kernel
theorem dX5_tallyHours_36 : decode cX5_tallyHours 36 = .ok (.dup2, 1) := by decide +kernel
theorem dX5_tallyHours_37 : decode cX5_tallyHours 37 = .ok (.iaload, 1) := by decide +kernel
theorem dX5_tallyHours_38 : decode cX5_tallyHours 38 = .ok (.iconst 1, 1) := by decide +kernel
theorem dX5_tallyHours_39 : decode cX5_tallyHours 39 = .ok (.iadd, 1) := by decide +kernel
theorem dX5_tallyHours_40 : decode cX5_tallyHours 40 = .ok (.iastore, 1) := by decide +kernel
theorem dX5_tallyHours_41 : decode cX5_tallyHours 41 = .ok (.iinc 2 1, 3) := by decide +kernel
theorem dX5_tallyHours_44 : decode cX5_tallyHours 44 = .ok (.goto (-42), 3) := by decide +kernel
theorem dX5_tallyHours_47 : decode cX5_tallyHours 47 = .ok (.return_, 1) := by decide +kernel
theorem dX5_greatestAlike_0 : decode cX5_greatestAlike 0 = .ok (.iconst 0, 1) := by decide +kernel
theorem dX5_greatestAlike_1 : decode cX5_greatestAlike 1 = .ok (.istore_n 2, 1) := by decide +kernel
theorem dX5_greatestAlike_2 : decode cX5_greatestAlike 2 = .ok (.iconst 0, 1) := by decide +kernel
theorem dX5_greatestAlike_3 : decode cX5_greatestAlike 3 = .ok (.istore_n 3, 1) := by decide +kernel
theorem dX5_greatestAlike_4 : decode cX5_greatestAlike 4 = .ok (.iload_n 3, 1) := by decide +kernel
theorem dX5_greatestAlike_5 : decode cX5_greatestAlike 5 = .ok (.iconst 4, 1) := by decide +kernel
theorem dX5_greatestAlike_6 : decode cX5_greatestAlike 6 = .ok (.if_icmp .gt 24, 3) := by decide +kernel
theorem dX5_greatestAlike_9 : decode cX5_greatestAlike 9 = .ok (.iload_n 2, 1) := by decide +kernel
theorem dX5_greatestAlike_10 : decode cX5_greatestAlike 10 = .ok (.aload_n 0, 1) := by decide +kernel
theorem dX5_greatestAlike_11 : decode cX5_greatestAlike 11 = .ok (.getfield 47, 3) := by decide +kernel
theorem dX5_greatestAlike_14 : decode cX5_greatestAlike 14 = .ok (.iload_n 1, 1) := by decide +kernel
theorem dX5_greatestAlike_15 : decode cX5_greatestAlike 15 = .ok (.iconst 5, 1) := by decide +kernel
theorem dX5_greatestAlike_16 : decode cX5_greatestAlike 16 = .ok (.imul, 1) := by decide +kernel
theorem dX5_greatestAlike_17 : decode cX5_greatestAlike 17 = .ok (.iload_n 3, 1) := by decide +kernel
theorem dX5_greatestAlike_18 : decode cX5_greatestAlike 18 = .ok (.iadd, 1) := by decide +kernel
theorem dX5_greatestAlike_19 : decode cX5_greatestAlike 19 = .ok (.iaload, 1) := by decide +kernel
theorem dX5_greatestAlike_20 : decode cX5_greatestAlike 20 = .ok (.invokestatic 400, 3) := by decide +kernel
theorem dX5_greatestAlike_23 : decode cX5_greatestAlike 23 = .ok (.istore_n 2, 1) := by decide +kernel
theorem dX5_greatestAlike_24 : decode cX5_greatestAlike 24 = .ok (.iinc 3 1, 3) := by decide +kernel
theorem dX5_greatestAlike_27 : decode cX5_greatestAlike 27 = .ok (.goto (-23), 3) := by decide +kernel
theorem dX5_greatestAlike_30 : decode cX5_greatestAlike 30 = .ok (.iload_n 2, 1) := by decide +kernel
theorem dX5_greatestAlike_31 : decode cX5_greatestAlike 31 = .ok (.ireturn, 1) := by decide +kernel
theorem dX5_tryEachChoiceOfLeaks_0 : decode cX5_tryEachChoiceOfLeaks 0 = .ok (.iconst 1, 1) := by decide +kernel
theorem dX5_tryEachChoiceOfLeaks_1 : decode cX5_tryEachChoiceOfLeaks 1 = .ok (.aload_n 0, 1) := by decide +kernel
theorem dX5_tryEachChoiceOfLeaks_2 : decode cX5_tryEachChoiceOfLeaks 2 = .ok (.getfield 26, 3) := by decide +kernel
theorem dX5_tryEachChoiceOfLeaks_5 : decode cX5_tryEachChoiceOfLeaks 5 = .ok (.getfield 135, 3) := by decide +kernel
theorem dX5_tryEachChoiceOfLeaks_8 : decode cX5_tryEachChoiceOfLeaks 8 = .ok (.ishl, 1) := by decide +kernel
theorem dX5_tryEachChoiceOfLeaks_9 : decode cX5_tryEachChoiceOfLeaks 9 = .ok (.istore_n 1, 1) := by decide +kernel
theorem dX5_tryEachChoiceOfLeaks_10 : decode cX5_tryEachChoiceOfLeaks 10 = .ok (.iconst 0, 1) := by decide +kernel
theorem dX5_tryEachChoiceOfLeaks_11 : decode cX5_tryEachChoiceOfLeaks 11 = .ok (.istore_n 2, 1) := by decide +kernel
theorem dX5_tryEachChoiceOfLeaks_12 : decode cX5_tryEachChoiceOfLeaks 12 = .ok (.iload_n 2, 1) := by decide +kernel
theorem dX5_tryEachChoiceOfLeaks_13 : decode cX5_tryEachChoiceOfLeaks 13 = .ok (.iload_n 1, 1) := by decide +kernel
theorem dX5_tryEachChoiceOfLeaks_14 : decode cX5_tryEachChoiceOfLeaks 14 = .ok (.if_icmp .ge 50, 3) := by decide +kernel
theorem dX5_tryEachChoiceOfLeaks_17 : decode cX5_tryEachChoiceOfLeaks 17 = .ok (.iload_n 2, 1) := by decide +kernel
theorem dX5_tryEachChoiceOfLeaks_18 : decode cX5_tryEachChoiceOfLeaks 18 = .ok (.aload_n 0, 1) := by decide +kernel
theorem dX5_tryEachChoiceOfLeaks_19 : decode cX5_tryEachChoiceOfLeaks 19 = .ok (.getfield 40, 3) := by decide +kernel
theorem dX5_tryEachChoiceOfLeaks_22 : decode cX5_tryEachChoiceOfLeaks 22 = .ok (.arraylength, 1) := by decide +kernel
theorem dX5_tryEachChoiceOfLeaks_23 : decode cX5_tryEachChoiceOfLeaks 23 = .ok (.if_icmp .ge 41, 3) := by decide +kernel
theorem dX5_tryEachChoiceOfLeaks_26 : decode cX5_tryEachChoiceOfLeaks 26 = .ok (.aload_n 0, 1) := by decide +kernel
theorem dX5_tryEachChoiceOfLeaks_27 : decode cX5_tryEachChoiceOfLeaks 27 = .ok (.getfield 26, 3) := by decide +kernel
theorem dX5_tryEachChoiceOfLeaks_30 : decode cX5_tryEachChoiceOfLeaks 30 = .ok (.iload_n 2, 1) := by decide +kernel
theorem dX5_tryEachChoiceOfLeaks_31 : decode cX5_tryEachChoiceOfLeaks 31 = .ok (.putfield 384, 3) := by decide +kernel
theorem dX5_tryEachChoiceOfLeaks_34 : decode cX5_tryEachChoiceOfLeaks 34 = .ok (.aload_n 0, 1) := by decide +kernel
theorem dX5_tryEachChoiceOfLeaks_35 : decode cX5_tryEachChoiceOfLeaks 35 = .ok (.getfield 37, 3) := by decide +kernel
theorem dX5_tryEachChoiceOfLeaks_38 : decode cX5_tryEachChoiceOfLeaks 38 = .ok (.aload_n 0, 1) := by decide +kernel
theorem dX5_tryEachChoiceOfLeaks_39 : decode cX5_tryEachChoiceOfLeaks 39 = .ok (.getfield 26, 3) := by decide +kernel
theorem dX5_tryEachChoiceOfLeaks_42 : decode cX5_tryEachChoiceOfLeaks 42 = .ok (.invokevirtual 209, 3) := by decide +kernel
theorem dX5_tryEachChoiceOfLeaks_45 : decode cX5_tryEachChoiceOfLeaks 45 = .ok (.aload_n 0, 1) := by decide +kernel
theorem dX5_tryEachChoiceOfLeaks_46 : decode cX5_tryEachChoiceOfLeaks 46 = .ok (.getfield 40, 3) := by decide +kernel
theorem dX5_tryEachChoiceOfLeaks_49 : decode cX5_tryEachChoiceOfLeaks 49 = .ok (.iload_n 2, 1) := by decide +kernel
theorem dX5_tryEachChoiceOfLeaks_50 : decode cX5_tryEachChoiceOfLeaks 50 = .ok (.aload_n 0, 1) := by decide +kernel
theorem dX5_tryEachChoiceOfLeaks_51 : decode cX5_tryEachChoiceOfLeaks 51 = .ok (.getfield 37, 3) := by decide +kernel
theorem dX5_tryEachChoiceOfLeaks_54 : decode cX5_tryEachChoiceOfLeaks 54 = .ok (.invokevirtual 403, 3) := by decide +kernel
theorem dX5_tryEachChoiceOfLeaks_57 : decode cX5_tryEachChoiceOfLeaks 57 = .ok (.iastore, 1) := by decide +kernel
theorem dX5_tryEachChoiceOfLeaks_58 : decode cX5_tryEachChoiceOfLeaks 58 = .ok (.iinc 2 1, 3) := by decide +kernel
theorem dX5_tryEachChoiceOfLeaks_61 : decode cX5_tryEachChoiceOfLeaks 61 = .ok (.goto (-49), 3) := by decide +kernel
theorem dX5_tryEachChoiceOfLeaks_64 : decode cX5_tryEachChoiceOfLeaks 64 = .ok (.aload_n 0, 1) := by decide +kernel
theorem dX5_tryEachChoiceOfLeaks_65 : decode cX5_tryEachChoiceOfLeaks 65 = .ok (.getfield 26, 3) := by decide +kernel
theorem dX5_tryEachChoiceOfLeaks_68 : decode cX5_tryEachChoiceOfLeaks 68 = .ok (.iconst (-1), 1) := by decide +kernel
theorem dX5_tryEachChoiceOfLeaks_69 : decode cX5_tryEachChoiceOfLeaks 69 = .ok (.putfield 384, 3) := by decide +kernel
theorem dX5_tryEachChoiceOfLeaks_72 : decode cX5_tryEachChoiceOfLeaks 72 = .ok (.aload_n 0, 1) := by decide +kernel
theorem dX5_tryEachChoiceOfLeaks_73 : decode cX5_tryEachChoiceOfLeaks 73 = .ok (.iconst 1, 1) := by decide +kernel
theorem dX5_tryEachChoiceOfLeaks_74 : decode cX5_tryEachChoiceOfLeaks 74 = .ok (.putfield 378, 3) := by decide +kernel
theorem dX5_tryEachChoiceOfLeaks_77 : decode cX5_tryEachChoiceOfLeaks 77 = .ok (.return_, 1) := by decide +kernel
theorem dX5_chanceOfNeverShort_0 : decode cX5_chanceOfNeverShort 0 = .ok (.aload_n 0, 1) := by decide +kernel
theorem dX5_chanceOfNeverShort_1 : decode cX5_chanceOfNeverShort 1 = .ok (.getfield 378, 3) := by decide +kernel
theorem dX5_chanceOfNeverShort_4 : decode cX5_chanceOfNeverShort 4 = .ok (.ifCond .ne 7, 3) := by decide +kernel
theorem dX5_chanceOfNeverShort_7 : decode cX5_chanceOfNeverShort 7 = .ok (.aload_n 0, 1) := by decide +kernel
theorem dX5_chanceOfNeverShort_8 : decode cX5_chanceOfNeverShort 8 = .ok (.invokevirtual 406, 3) := by decide +kernel
theorem dX5_chanceOfNeverShort_11 : decode cX5_chanceOfNeverShort 11 = .ok (.lconst 0, 1) := by decide +kernel
theorem dX5_chanceOfNeverShort_12 : decode cX5_chanceOfNeverShort 12 = .ok (.lstore_n 3, 1) := by decide +kernel
theorem dX5_chanceOfNeverShort_13 : decode cX5_chanceOfNeverShort 13 = .ok (.iconst 1, 1) := by decide +kernel
theorem dX5_chanceOfNeverShort_14 : decode cX5_chanceOfNeverShort 14 = .ok (.aload_n 0, 1) := by decide +kernel
theorem dX5_chanceOfNeverShort_15 : decode cX5_chanceOfNeverShort 15 = .ok (.getfield 26, 3) := by decide +kernel
theorem dX5_chanceOfNeverShort_18 : decode cX5_chanceOfNeverShort 18 = .ok (.getfield 135, 3) := by decide +kernel
theorem dX5_chanceOfNeverShort_21 : decode cX5_chanceOfNeverShort 21 = .ok (.ishl, 1) := by decide +kernel
theorem dX5_chanceOfNeverShort_22 : decode cX5_chanceOfNeverShort 22 = .ok (.istore 5, 2) := by decide +kernel
theorem dX5_chanceOfNeverShort_24 : decode cX5_chanceOfNeverShort 24 = .ok (.iconst 0, 1) := by decide +kernel
theorem dX5_chanceOfNeverShort_25 : decode cX5_chanceOfNeverShort 25 = .ok (.istore 6, 2) := by decide +kernel
theorem dX5_chanceOfNeverShort_27 : decode cX5_chanceOfNeverShort 27 = .ok (.iload 6, 2) := by decide +kernel
theorem dX5_chanceOfNeverShort_29 : decode cX5_chanceOfNeverShort 29 = .ok (.iload 5, 2) := by decide +kernel
theorem dX5_chanceOfNeverShort_31 : decode cX5_chanceOfNeverShort 31 = .ok (.if_icmp .ge 43, 3) := by decide +kernel
theorem dX5_chanceOfNeverShort_34 : decode cX5_chanceOfNeverShort 34 = .ok (.iload 6, 2) := by decide +kernel
theorem dX5_chanceOfNeverShort_36 : decode cX5_chanceOfNeverShort 36 = .ok (.aload_n 0, 1) := by decide +kernel
theorem dX5_chanceOfNeverShort_37 : decode cX5_chanceOfNeverShort 37 = .ok (.getfield 40, 3) := by decide +kernel
theorem dX5_chanceOfNeverShort_40 : decode cX5_chanceOfNeverShort 40 = .ok (.arraylength, 1) := by decide +kernel
theorem dX5_chanceOfNeverShort_41 : decode cX5_chanceOfNeverShort 41 = .ok (.if_icmp .ge 33, 3) := by decide +kernel
theorem dX5_chanceOfNeverShort_44 : decode cX5_chanceOfNeverShort 44 = .ok (.aload_n 0, 1) := by decide +kernel
theorem dX5_chanceOfNeverShort_45 : decode cX5_chanceOfNeverShort 45 = .ok (.getfield 40, 3) := by decide +kernel
theorem dX5_chanceOfNeverShort_48 : decode cX5_chanceOfNeverShort 48 = .ok (.iload 6, 2) := by decide +kernel
theorem dX5_chanceOfNeverShort_50 : decode cX5_chanceOfNeverShort 50 = .ok (.iaload, 1) := by decide +kernel
theorem dX5_chanceOfNeverShort_51 : decode cX5_chanceOfNeverShort 51 = .ok (.iload_n 2, 1) := by decide +kernel
theorem dX5_chanceOfNeverShort_52 : decode cX5_chanceOfNeverShort 52 = .ok (.ishr, 1) := by decide +kernel
theorem dX5_chanceOfNeverShort_53 : decode cX5_chanceOfNeverShort 53 = .ok (.iconst 1, 1) := by decide +kernel
theorem dX5_chanceOfNeverShort_54 : decode cX5_chanceOfNeverShort 54 = .ok (.iand, 1) := by decide +kernel
theorem dX5_chanceOfNeverShort_55 : decode cX5_chanceOfNeverShort 55 = .ok (.ifCond .ne 13, 3) := by decide +kernel
theorem dX5_chanceOfNeverShort_58 : decode cX5_chanceOfNeverShort 58 = .ok (.lload_n 3, 1) := by decide +kernel
theorem dX5_chanceOfNeverShort_59 : decode cX5_chanceOfNeverShort 59 = .ok (.aload_n 0, 1) := by decide +kernel
theorem dX5_chanceOfNeverShort_60 : decode cX5_chanceOfNeverShort 60 = .ok (.iload 6, 2) := by decide +kernel
theorem dX5_chanceOfNeverShort_62 : decode cX5_chanceOfNeverShort 62 = .ok (.iload_n 1, 1) := by decide +kernel
theorem dX5_chanceOfNeverShort_63 : decode cX5_chanceOfNeverShort 63 = .ok (.invokevirtual 409, 3) := by decide +kernel
theorem dX5_chanceOfNeverShort_66 : decode cX5_chanceOfNeverShort 66 = .ok (.ladd, 1) := by decide +kernel
theorem dX5_chanceOfNeverShort_67 : decode cX5_chanceOfNeverShort 67 = .ok (.lstore_n 3, 1) := by decide +kernel
theorem dX5_chanceOfNeverShort_68 : decode cX5_chanceOfNeverShort 68 = .ok (.iinc 6 1, 3) := by decide +kernel
theorem dX5_chanceOfNeverShort_71 : decode cX5_chanceOfNeverShort 71 = .ok (.goto (-44), 3) := by decide +kernel
theorem dX5_chanceOfNeverShort_74 : decode cX5_chanceOfNeverShort 74 = .ok (.lload_n 3, 1) := by decide +kernel
theorem dX5_chanceOfNeverShort_75 : decode cX5_chanceOfNeverShort 75 = .ok (.lreturn, 1) := by decide +kernel
theorem dX5_weightOf_0 : decode cX5_weightOf 0 = .ok (.lconst 1, 1) := by decide +kernel
theorem dX5_weightOf_1 : decode cX5_weightOf 1 = .ok (.lstore_n 3, 1) := by decide +kernel
theorem dX5_weightOf_2 : decode cX5_weightOf 2 = .ok (.iconst 0, 1) := by decide +kernel
theorem dX5_weightOf_3 : decode cX5_weightOf 3 = .ok (.istore 5, 2) := by decide +kernel
theorem dX5_weightOf_5 : decode cX5_weightOf 5 = .ok (.iload 5, 2) := by decide +kernel
theorem dX5_weightOf_7 : decode cX5_weightOf 7 = .ok (.aload_n 0, 1) := by decide +kernel
theorem dX5_weightOf_8 : decode cX5_weightOf 8 = .ok (.getfield 26, 3) := by decide +kernel
theorem dX5_weightOf_11 : decode cX5_weightOf 11 = .ok (.getfield 135, 3) := by decide +kernel
theorem dX5_weightOf_14 : decode cX5_weightOf 14 = .ok (.if_icmp .ge 32, 3) := by decide +kernel
theorem dX5_weightOf_17 : decode cX5_weightOf 17 = .ok (.lload_n 3, 1) := by decide +kernel
theorem dX5_weightOf_18 : decode cX5_weightOf 18 = .ok (.iload_n 1, 1) := by decide +kernel
theorem dX5_weightOf_19 : decode cX5_weightOf 19 = .ok (.iload 5, 2) := by decide +kernel
theorem dX5_weightOf_21 : decode cX5_weightOf 21 = .ok (.ishr, 1) := by decide +kernel
theorem dX5_weightOf_22 : decode cX5_weightOf 22 = .ok (.iconst 1, 1) := by decide +kernel
theorem dX5_weightOf_23 : decode cX5_weightOf 23 = .ok (.iand, 1) := by decide +kernel
theorem dX5_weightOf_24 : decode cX5_weightOf 24 = .ok (.iconst 1, 1) := by decide +kernel
theorem dX5_weightOf_25 : decode cX5_weightOf 25 = .ok (.if_icmp .ne 8, 3) := by decide +kernel
theorem dX5_weightOf_28 : decode cX5_weightOf 28 = .ok (.iload_n 2, 1) := by decide +kernel
theorem dX5_weightOf_29 : decode cX5_weightOf 29 = .ok (.i2l, 1) := by decide +kernel
theorem dX5_weightOf_30 : decode cX5_weightOf 30 = .ok (.goto 8, 3) := by decide +kernel
theorem dX5_weightOf_33 : decode cX5_weightOf 33 = .ok (.bipush 16, 2) := by decide +kernel
theorem dX5_weightOf_35 : decode cX5_weightOf 35 = .ok (.iload_n 2, 1) := by decide +kernel
theorem dX5_weightOf_36 : decode cX5_weightOf 36 = .ok (.isub, 1) := by decide +kernel
theorem dX5_weightOf_37 : decode cX5_weightOf 37 = .ok (.i2l, 1) := by decide +kernel
theorem dX5_weightOf_38 : decode cX5_weightOf 38 = .ok (.lmul, 1) := by decide +kernel
theorem dX5_weightOf_39 : decode cX5_weightOf 39 = .ok (.lstore_n 3, 1) := by decide +kernel
theorem dX5_weightOf_40 : decode cX5_weightOf 40 = .ok (.iinc 5 1, 3) := by decide +kernel
theorem dX5_weightOf_43 : decode cX5_weightOf 43 = .ok (.goto (-38), 3) := by decide +kernel
theorem dX5_weightOf_46 : decode cX5_weightOf 46 = .ok (.lload_n 3, 1) := by decide +kernel
theorem dX5_weightOf_47 : decode cX5_weightOf 47 = .ok (.lreturn, 1) := by decide +kernel
theorem dX5_drawLots_0 : decode cX5_drawLots 0 = .ok (.iload_n 1, 1) := by decide +kernel
theorem dX5_drawLots_1 : decode cX5_drawLots 1 = .ok (.istore_n 3, 1) := by decide +kernel
theorem dX5_drawLots_2 : decode cX5_drawLots 2 = .ok (.iconst 0, 1) := by decide +kernel
theorem dX5_drawLots_3 : decode cX5_drawLots 3 = .ok (.istore 4, 2) := by decide +kernel
theorem dX5_drawLots_5 : decode cX5_drawLots 5 = .ok (.iload 4, 2) := by decide +kernel
theorem dX5_drawLots_7 : decode cX5_drawLots 7 = .ok (.bipush 40, 2) := by decide +kernel
theorem dX5_drawLots_9 : decode cX5_drawLots 9 = .ok (.if_icmp .ge 50, 3) := by decide +kernel
theorem dX5_drawLots_12 : decode cX5_drawLots 12 = .ok (.iload 4, 2) := by decide +kernel
theorem dX5_drawLots_14 : decode cX5_drawLots 14 = .ok (.iload_n 2, 1) := by decide +kernel
theorem dX5_drawLots_15 : decode cX5_drawLots 15 = .ok (.if_icmp .ge 30, 3) := by decide +kernel
theorem dX5_drawLots_18 : decode cX5_drawLots 18 = .ok (.ldc_w 412, 3) := by decide +kernel
theorem dX5_drawLots_21 : decode cX5_drawLots 21 = .ok (.iload_n 3, 1) := by decide +kernel
theorem dX5_drawLots_22 : decode cX5_drawLots 22 = .ok (.imul, 1) := by decide +kernel
theorem dX5_drawLots_23 : decode cX5_drawLots 23 = .ok (.sipush 12345, 3) := by decide +kernel
theorem dX5_drawLots_26 : decode cX5_drawLots 26 = .ok (.iadd, 1) := by decide +kernel
theorem dX5_drawLots_27 : decode cX5_drawLots 27 = .ok (.istore_n 3, 1) := by decide +kernel
theorem dX5_drawLots_28 : decode cX5_drawLots 28 = .ok (.aload_n 0, 1) := by decide +kernel
theorem dX5_drawLots_29 : decode cX5_drawLots 29 = .ok (.getfield 44, 3) := by decide +kernel
theorem dX5_drawLots_32 : decode cX5_drawLots 32 = .ok (.iload 4, 2) := by decide +kernel
theorem dX5_drawLots_34 : decode cX5_drawLots 34 = .ok (.iload_n 3, 1) := by decide +kernel
theorem dX5_drawLots_35 : decode cX5_drawLots 35 = .ok (.bipush 16, 2) := by decide +kernel
theorem dX5_drawLots_37 : decode cX5_drawLots 37 = .ok (.iushr, 1) := by decide +kernel
theorem dX5_drawLots_38 : decode cX5_drawLots 38 = .ok (.bipush 10, 2) := by decide +kernel
theorem dX5_drawLots_40 : decode cX5_drawLots 40 = .ok (.irem, 1) := by decide +kernel
theorem dX5_drawLots_41 : decode cX5_drawLots 41 = .ok (.iastore, 1) := by decide +kernel
theorem dX5_drawLots_42 : decode cX5_drawLots 42 = .ok (.goto 11, 3) := by decide +kernel
theorem dX5_drawLots_45 : decode cX5_drawLots 45 = .ok (.aload_n 0, 1) := by decide +kernel
theorem dX5_drawLots_46 : decode cX5_drawLots 46 = .ok (.getfield 44, 3) := by decide +kernel
theorem dX5_drawLots_49 : decode cX5_drawLots 49 = .ok (.iload 4, 2) := by decide +kernel
theorem dX5_drawLots_51 : decode cX5_drawLots 51 = .ok (.iconst 3, 1) := by decide +kernel
theorem dX5_drawLots_52 : decode cX5_drawLots 52 = .ok (.iastore, 1) := by decide +kernel
theorem dX5_drawLots_53 : decode cX5_drawLots 53 = .ok (.iinc 4 1, 3) := by decide +kernel
theorem dX5_drawLots_56 : decode cX5_drawLots 56 = .ok (.goto (-51), 3) := by decide +kernel
theorem dX5_drawLots_59 : decode cX5_drawLots 59 = .ok (.return_, 1) := by decide +kernel
