theorem dX7_init_0 : decode cX7_init 0 = .ok (.aload_n 0, 1) := by decide +kernel
theorem dX7_init_1 : decode cX7_init 1 = .ok (.invokespecial 3, 3) := by decide +kernel
theorem dX7_init_4 : decode cX7_init 4 = .ok (.aload_n 0, 1) := by decide +kernel
theorem dX7_init_5 : decode cX7_init 5 = .ok (.iconst 2, 1) := by decide +kernel
theorem dX7_init_6 : decode cX7_init 6 = .ok (.anewarray 9, 3) := by decide +kernel
theorem dX7_init_9 : decode cX7_init 9 = .ok (.dup, 1) := by decide +kernel
theorem dX7_init_10 : decode cX7_init 10 = .ok (.iconst 0, 1) := by decide +kernel
theorem dX7_init_11 : decode cX7_init 11 = .ok (.new 9, 3) := by decide +kernel
theorem dX7_init_14 : decode cX7_init 14 = .ok (.dup, 1) := by decide +kernel
theorem dX7_init_15 : decode cX7_init 15 = .ok (.bipush 39, 2) := by decide +kernel
theorem dX7_init_17 : decode cX7_init 17 = .ok (.invokespecial 11, 3) := by decide +kernel
theorem dX7_init_20 : decode cX7_init 20 = .ok (.aastore, 1) := by decide +kernel
theorem dX7_init_21 : decode cX7_init 21 = .ok (.dup, 1) := by decide +kernel
theorem dX7_init_22 : decode cX7_init 22 = .ok (.iconst 1, 1) := by decide +kernel
theorem dX7_init_23 : decode cX7_init 23 = .ok (.new 9, 3) := by decide +kernel
theorem dX7_init_26 : decode cX7_init 26 = .ok (.dup, 1) := by decide +kernel
theorem dX7_init_27 : decode cX7_init 27 = .ok (.bipush 16, 2) := by decide +kernel
theorem dX7_init_29 : decode cX7_init 29 = .ok (.invokespecial 11, 3) := by decide +kernel
theorem dX7_init_32 : decode cX7_init 32 = .ok (.aastore, 1) := by decide +kernel
theorem dX7_init_33 : decode cX7_init 33 = .ok (.putfield 14, 3) := by decide +kernel
theorem dX7_init_36 : decode cX7_init 36 = .ok (.aload_n 0, 1) := by decide +kernel
theorem dX7_init_37 : decode cX7_init 37 = .ok (.new 18, 3) := by decide +kernel
theorem dX7_init_40 : decode cX7_init 40 = .ok (.dup, 1) := by decide +kernel
theorem dX7_init_41 : decode cX7_init 41 = .ok (.invokespecial 20, 3) := by decide +kernel
theorem dX7_init_44 : decode cX7_init 44 = .ok (.putfield 21, 3) := by decide +kernel
theorem dX7_init_47 : decode cX7_init 47 = .ok (.aload_n 0, 1) := by decide +kernel
theorem dX7_init_48 : decode cX7_init 48 = .ok (.new 25, 3) := by decide +kernel
theorem dX7_init_51 : decode cX7_init 51 = .ok (.dup, 1) := by decide +kernel
theorem dX7_init_52 : decode cX7_init 52 = .ok (.aload_n 0, 1) := by decide +kernel
theorem dX7_init_53 : decode cX7_init 53 = .ok (.getfield 21, 3) := by decide +kernel
theorem dX7_init_56 : decode cX7_init 56 = .ok (.invokespecial 27, 3) := by decide +kernel
theorem dX7_init_59 : decode cX7_init 59 = .ok (.putfield 30, 3) := by decide +kernel
theorem dX7_init_62 : decode cX7_init 62 = .ok (.aload_n 0, 1) := by decide +kernel
theorem dX7_init_63 : decode cX7_init 63 = .ok (.new 25, 3) := by decide +kernel
theorem dX7_init_66 : decode cX7_init 66 = .ok (.dup, 1) := by decide +kernel
theorem dX7_init_67 : decode cX7_init 67 = .ok (.aload_n 0, 1) := by decide +kernel
theorem dX7_init_68 : decode cX7_init 68 = .ok (.getfield 21, 3) := by decide +kernel
theorem dX7_init_71 : decode cX7_init 71 = .ok (.invokespecial 27, 3) := by decide +kernel
theorem dX7_init_74 : decode cX7_init 74 = .ok (.putfield 34, 3) := by decide +kernel
theorem dX7_init_77 : decode cX7_init 77 = .ok (.aload_n 0, 1) := by decide +kernel
theorem dX7_init_78 : decode cX7_init 78 = .ok (.new 37, 3) := by decide +kernel
theorem dX7_init_81 : decode cX7_init 81 = .ok (.dup, 1) := by decide +kernel
theorem dX7_init_82 : decode cX7_init 82 = .ok (.invokespecial 39, 3) := by decide +kernel
theorem dX7_init_85 : decode cX7_init 85 = .ok (.putfield 40, 3) := by decide +kernel
theorem dX7_init_88 : decode cX7_init 88 = .ok (.aload_n 0, 1) := by decide +kernel
theorem dX7_init_89 : decode cX7_init 89 = .ok (.new 44, 3) := by decide +kernel
theorem dX7_init_92 : decode cX7_init 92 = .ok (.dup, 1) := by decide +kernel
theorem dX7_init_93 : decode cX7_init 93 = .ok (.invokespecial 46, 3) := by decide +kernel
theorem dX7_init_96 : decode cX7_init 96 = .ok (.putfield 47, 3) := by decide +kernel
theorem dX7_init_99 : decode cX7_init 99 = .ok (.aload_n 0, 1) := by decide +kernel
theorem dX7_init_100 : decode cX7_init 100 = .ok (.iconst 4, 1) := by decide +kernel
theorem dX7_init_101 : decode cX7_init 101 = .ok (.anewarray 51, 3) := by decide +kernel
theorem dX7_init_104 : decode cX7_init 104 = .ok (.dup, 1) := by decide +kernel
theorem dX7_init_105 : decode cX7_init 105 = .ok (.iconst 0, 1) := by decide +kernel
theorem dX7_init_106 : decode cX7_init 106 = .ok (.new 51, 3) := by decide +kernel
theorem dX7_init_109 : decode cX7_init 109 = .ok (.dup, 1) := by decide +kernel
theorem dX7_init_110 : decode cX7_init 110 = .ok (.invokespecial 53, 3) := by decide +kernel
theorem dX7_init_113 : decode cX7_init 113 = .ok (.aastore, 1) := by decide +kernel
theorem dX7_init_114 : decode cX7_init 114 = .ok (.dup, 1) := by decide +kernel
theorem dX7_init_115 : decode cX7_init 115 = .ok (.iconst 1, 1) := by decide +kernel
theorem dX7_init_116 : decode cX7_init 116 = .ok (.new 51, 3) := by decide +kernel
theorem dX7_init_119 : decode cX7_init 119 = .ok (.dup, 1) := by decide +kernel
theorem dX7_init_120 : decode cX7_init 120 = .ok (.invokespecial 53, 3) := by decide +kernel
theorem dX7_init_123 : decode cX7_init 123 = .ok (.aastore, 1) := by decide +kernel
theorem dX7_init_124 : decode cX7_init 124 = .ok (.dup, 1) := by decide +kernel
theorem dX7_init_125 : decode cX7_init 125 = .ok (.iconst 2, 1) := by decide +kernel
theorem dX7_init_126 : decode cX7_init 126 = .ok (.new 51, 3) := by decide +kernel
theorem dX7_init_129 : decode cX7_init 129 = .ok (.dup, 1) := by decide +kernel
theorem dX7_init_130 : decode cX7_init 130 = .ok (.invokespecial 53, 3) := by decide +kernel
theorem dX7_init_133 : decode cX7_init 133 = .ok (.aastore, 1) := by decide +kernel
theorem dX7_init_134 : decode cX7_init 134 = .ok (.dup, 1) := by decide +kernel
theorem dX7_init_135 : decode cX7_init 135 = .ok (.iconst 3, 1) := by decide +kernel
theorem dX7_init_136 : decode cX7_init 136 = .ok (.new 51, 3) := by decide +kernel
theorem dX7_init_139 : decode cX7_init 139 = .ok (.dup, 1) := by decide +kernel
theorem dX7_init_140 : decode cX7_init 140 = .ok (.invokespecial 53, 3) := by decide +kernel
theorem dX7_init_143 : decode cX7_init 143 = .ok (.aastore, 1) := by decide +kernel
theorem dX7_init_144 : decode cX7_init 144 = .ok (.putfield 54, 3) := by decide +kernel
theorem dX7_init_147 : decode cX7_init 147 = .ok (.aload_n 0, 1) := by decide +kernel
theorem dX7_init_148 : decode cX7_init 148 = .ok (.bipush 8, 2) := by decide +kernel
theorem dX7_init_150 : decode cX7_init 150 = .ok (.bipush 9, 2) := by decide +kernel
theorem dX7_init_152 : decode cX7_init 152 = .ok (.multianewarray 58 2, 4) := by decide +kernel
theorem dX7_init_156 : decode cX7_init 156 = .ok (.putfield 60, 3) := by decide +kernel
theorem dX7_init_159 : decode cX7_init 159 = .ok (.aload_n 0, 1) := by decide +kernel
theorem dX7_init_160 : decode cX7_init 160 = .ok (.bipush 11, 2) := by decide +kernel
theorem dX7_init_162 : decode cX7_init 162 = .ok (.newarray .int, 2) := by decide +kernel
theorem dX7_init_164 : decode cX7_init 164 = .ok (.putfield 63, 3) := by decide +kernel
theorem dX7_init_167 : decode cX7_init 167 = .ok (.aload_n 0, 1) := by decide +kernel
theorem dX7_init_168 : decode cX7_init 168 = .ok (.invokevirtual 67, 3) := by decide +kernel
theorem dX7_init_171 : decode cX7_init 171 = .ok (.return_, 1) := by decide +kernel
theorem dX7_type_0 : decode cX7_type 0 = .ok (.iload_n 1, 1) := by decide +kernel
theorem dX7_type_1 : decode cX7_type 1 = .ok (.aload_n 0, 1) := by decide +kernel
theorem dX7_type_2 : decode cX7_type 2 = .ok (.getfield 14, 3) := by decide +kernel
theorem dX7_type_5 : decode cX7_type 5 = .ok (.arraylength, 1) := by decide +kernel
theorem dX7_type_6 : decode cX7_type 6 = .ok (.invokestatic 70, 3) := by decide +kernel
theorem dX7_type_9 : decode cX7_type 9 = .ok (.ifCond .ne 13, 3) := by decide +kernel
theorem dX7_type_12 : decode cX7_type 12 = .ok (.iload_n 2, 1) := by decide +kernel
theorem dX7_type_13 : decode cX7_type 13 = .ok (.sipush 256, 3) := by decide +kernel
theorem dX7_type_16 : decode cX7_type 16 = .ok (.invokestatic 70, 3) := by decide +kernel
theorem dX7_type_19 : decode cX7_type 19 = .ok (.ifCond .eq 6, 3) := by decide +kernel
theorem dX7_type_22 : decode cX7_type 22 = .ok (.bipush (-2), 2) := by decide +kernel
theorem dX7_type_24 : decode cX7_type 24 = .ok (.ireturn, 1) := by decide +kernel
theorem dX7_type_25 : decode cX7_type 25 = .ok (.aload_n 0, 1) := by decide +kernel
theorem dX7_type_26 : decode cX7_type 26 = .ok (.getfield 14, 3) := by decide +kernel
theorem dX7_type_29 : decode cX7_type 29 = .ok (.iload_n 1, 1) := by decide +kernel
theorem dX7_type_30 : decode cX7_type 30 = .ok (.aaload, 1) := by decide +kernel
theorem dX7_type_31 : decode cX7_type 31 = .ok (.invokevirtual 74, 3) := by decide +kernel
theorem dX7_type_34 : decode cX7_type 34 = .ok (.ifCond .eq 6, 3) := by decide +kernel
theorem dX7_type_37 : decode cX7_type 37 = .ok (.bipush (-4), 2) := by decide +kernel
theorem dX7_type_39 : decode cX7_type 39 = .ok (.ireturn, 1) := by decide +kernel
theorem dX7_type_40 : decode cX7_type 40 = .ok (.aload_n 0, 1) := by decide +kernel
theorem dX7_type_41 : decode cX7_type 41 = .ok (.getfield 14, 3) := by decide +kernel
theorem dX7_type_44 : decode cX7_type 44 = .ok (.iload_n 1, 1) := by decide +kernel
theorem dX7_type_45 : decode cX7_type 45 = .ok (.aaload, 1) := by decide +kernel
theorem dX7_type_46 : decode cX7_type 46 = .ok (.iload_n 2, 1) := by decide +kernel
theorem dX7_type_47 : decode cX7_type 47 = .ok (.invokevirtual 78, 3) := by decide +kernel
theorem dX7_type_50 : decode cX7_type 50 = .ok (.aload_n 0, 1) := by decide +kernel
theorem dX7_type_51 : decode cX7_type 51 = .ok (.invokevirtual 67, 3) := by decide +kernel
theorem dX7_type_54 : decode cX7_type 54 = .ok (.aload_n 0, 1) := by decide +kernel
theorem dX7_type_55 : decode cX7_type 55 = .ok (.getfield 14, 3) := by decide +kernel
theorem dX7_type_58 : decode cX7_type 58 = .ok (.iload_n 1, 1) := by decide +kernel
theorem dX7_type_59 : decode cX7_type 59 = .ok (.aaload, 1) := by decide +kernel
theorem dX7_type_60 : decode cX7_type 60 = .ok (.getfield 81, 3) := by decide +kernel
theorem dX7_type_63 : decode cX7_type 63 = .ok (.ireturn, 1) := by decide +kernel
theorem dX7_wipe_0 : decode cX7_wipe 0 = .ok (.iload_n 1, 1) := by decide +kernel
theorem dX7_wipe_1 : decode cX7_wipe 1 = .ok (.aload_n 0, 1) := by decide +kernel
theorem dX7_wipe_2 : decode cX7_wipe 2 = .ok (.getfield 14, 3) := by decide +kernel
theorem dX7_wipe_5 : decode cX7_wipe 5 = .ok (.arraylength, 1) := by decide +kernel
theorem dX7_wipe_6 : decode cX7_wipe 6 = .ok (.invokestatic 70, 3) := by decide +kernel
theorem dX7_wipe_9 : decode cX7_wipe 9 = .ok (.ifCond .eq 6, 3) := by decide +kernel
theorem dX7_wipe_12 : decode cX7_wipe 12 = .ok (.bipush (-2), 2) := by decide +kernel
theorem dX7_wipe_14 : decode cX7_wipe 14 = .ok (.ireturn, 1) := by decide +kernel
theorem dX7_wipe_15 : decode cX7_wipe 15 = .ok (.aload_n 0, 1) := by decide +kernel
theorem dX7_wipe_16 : decode cX7_wipe 16 = .ok (.getfield 14, 3) := by decide +kernel
theorem dX7_wipe_19 : decode cX7_wipe 19 = .ok (.iload_n 1, 1) := by decide +kernel
theorem dX7_wipe_20 : decode cX7_wipe 20 = .ok (.aaload, 1) := by decide +kernel
theorem dX7_wipe_21 : decode cX7_wipe 21 = .ok (.getfield 81, 3) := by decide +kernel
theorem dX7_wipe_24 : decode cX7_wipe 24 = .ok (.istore_n 2, 1) := by decide +kernel
theorem dX7_wipe_25 : decode cX7_wipe 25 = .ok (.aload_n 0, 1) := by decide +kernel
theorem dX7_wipe_26 : decode cX7_wipe 26 = .ok (.getfield 14, 3) := by decide +kernel
theorem dX7_wipe_29 : decode cX7_wipe 29 = .ok (.iload_n 1, 1) := by decide +kernel
theorem dX7_wipe_30 : decode cX7_wipe 30 = .ok (.aaload, 1) := by decide +kernel
theorem dX7_wipe_31 : decode cX7_wipe 31 = .ok (.iconst 0, 1) := by decide +kernel
theorem dX7_wipe_32 : decode cX7_wipe 32 = .ok (.putfield 81, 3) := by decide +kernel
theorem dX7_wipe_35 : decode cX7_wipe 35 = .ok (.aload_n 0, 1) := by decide +kernel
theorem dX7_wipe_36 : decode cX7_wipe 36 = .ok (.invokevirtual 67, 3) := by decide +kernel
theorem dX7_wipe_39 : decode cX7_wipe 39 = .ok (.iload_n 2, 1) := by decide +kernel
theorem dX7_wipe_40 : decode cX7_wipe 40 = .ok (.ireturn, 1) := by decide +kernel
theorem dX7_undo_0 : decode cX7_undo 0 = .ok (.iload_n 1, 1) := by decide +kernel
theorem dX7_undo_1 : decode cX7_undo 1 = .ok (.aload_n 0, 1) := by decide +kernel
theorem dX7_undo_2 : decode cX7_undo 2 = .ok (.getfield 14, 3) := by decide +kernel
theorem dX7_undo_5 : decode cX7_undo 5 = .ok (.arraylength, 1) := by decide +kernel
theorem dX7_undo_6 : decode cX7_undo 6 = .ok (.invokestatic 70, 3) := by decide +kernel
theorem dX7_undo_9 : decode cX7_undo 9 = .ok (.ifCond .eq 6, 3) := by decide +kernel
theorem dX7_undo_12 : decode cX7_undo 12 = .ok (.bipush (-2), 2) := by decide +kernel
theorem dX7_undo_14 : decode cX7_undo 14 = .ok (.ireturn, 1) := by decide +kernel
theorem dX7_undo_15 : decode cX7_undo 15 = .ok (.aload_n 0, 1) := by decide +kernel
theorem dX7_undo_16 : decode cX7_undo 16 = .ok (.getfield 14, 3) := by decide +kernel
theorem dX7_undo_19 : decode cX7_undo 19 = .ok (.iload_n 1, 1) := by decide +kernel
theorem dX7_undo_20 : decode cX7_undo 20 = .ok (.aaload, 1) := by decide +kernel
theorem dX7_undo_21 : decode cX7_undo 21 = .ok (.getfield 81, 3) := by decide +kernel
theorem dX7_undo_24 : decode cX7_undo 24 = .ok (.ifCond .ne 6, 3) := by decide +kernel
theorem dX7_undo_27 : decode cX7_undo 27 = .ok (.bipush (-3), 2) := by decide +kernel
theorem dX7_undo_29 : decode cX7_undo 29 = .ok (.ireturn, 1) := by decide +kernel
theorem dX7_undo_30 : decode cX7_undo 30 = .ok (.aload_n 0, 1) := by decide +kernel
theorem dX7_undo_31 : decode cX7_undo 31 = .ok (.getfield 14, 3) := by decide +kernel
theorem dX7_undo_34 : decode cX7_undo 34 = .ok (.iload_n 1, 1) := by decide +kernel
theorem dX7_undo_35 : decode cX7_undo 35 = .ok (.aaload, 1) := by decide +kernel
theorem dX7_undo_36 : decode cX7_undo 36 = .ok (.dup, 1) := by decide +kernel
theorem dX7_undo_37 : decode cX7_undo 37 = .ok (.getfield 81, 3) := by decide +kernel
theorem dX7_undo_40 : decode cX7_undo 40 = .ok (.iconst 1, 1) := by decide +kernel
theorem dX7_undo_41 : decode cX7_undo 41 = .ok (.isub, 1) := by decide +kernel
theorem dX7_undo_42 : decode cX7_undo 42 = .ok (.putfield 81, 3) := by decide +kernel
theorem dX7_undo_45 : decode cX7_undo 45 = .ok (.aload_n 0, 1) := by decide +kernel
theorem dX7_undo_46 : decode cX7_undo 46 = .ok (.invokevirtual 67, 3) := by decide +kernel
theorem dX7_undo_49 : decode cX7_undo 49 = .ok (.aload_n 0, 1) := by decide +kernel
theorem dX7_undo_50 : decode cX7_undo 50 = .ok (.getfield 14, 3) := by decide +kernel
theorem dX7_undo_53 : decode cX7_undo 53 = .ok (.iload_n 1, 1) := by decide +kernel
theorem dX7_undo_54 : decode cX7_undo 54 = .ok (.aaload, 1) := by decide +kernel
theorem dX7_undo_55 : decode cX7_undo 55 = .ok (.getfield 81, 3) := by decide +kernel
theorem dX7_undo_58 : decode cX7_undo 58 = .ok (.ireturn, 1) := by decide +kernel
theorem dX7_fault_0 : decode cX7_fault 0 = .ok (.iload_n 1, 1) := by decide +kernel
theorem dX7_fault_1 : decode cX7_fault 1 = .ok (.aload_n 0, 1) := by decide +kernel
theorem dX7_fault_2 : decode cX7_fault 2 = .ok (.getfield 14, 3) := by decide +kernel
theorem dX7_fault_5 : decode cX7_fault 5 = .ok (.arraylength, 1) := by decide +kernel
theorem dX7_fault_6 : decode cX7_fault 6 = .ok (.invokestatic 70, 3) := by decide +kernel
theorem dX7_fault_9 : decode cX7_fault 9 = .ok (.ifCond .eq 6, 3) := by decide +kernel
theorem dX7_fault_12 : decode cX7_fault 12 = .ok (.bipush (-2), 2) := by decide +kernel
theorem dX7_fault_14 : decode cX7_fault 14 = .ok (.ireturn, 1) := by decide +kernel
theorem dX7_fault_15 : decode cX7_fault 15 = .ok (.iload_n 1, 1) := by decide +kernel
theorem dX7_fault_16 : decode cX7_fault 16 = .ok (.ifCond .ne 15, 3) := by decide +kernel
theorem dX7_fault_19 : decode cX7_fault 19 = .ok (.aload_n 0, 1) := by decide +kernel
theorem dX7_fault_20 : decode cX7_fault 20 = .ok (.getfield 14, 3) := by decide +kernel
theorem dX7_fault_23 : decode cX7_fault 23 = .ok (.iconst 0, 1) := by decide +kernel
theorem dX7_fault_24 : decode cX7_fault 24 = .ok (.aaload, 1) := by decide +kernel
theorem dX7_fault_25 : decode cX7_fault 25 = .ok (.invokevirtual 85, 3) := by decide +kernel
theorem dX7_fault_28 : decode cX7_fault 28 = .ok (.goto 12, 3) := by decide +kernel
theorem dX7_fault_31 : decode cX7_fault 31 = .ok (.aload_n 0, 1) := by decide +kernel
theorem dX7_fault_32 : decode cX7_fault 32 = .ok (.getfield 14, 3) := by decide +kernel
theorem dX7_fault_35 : decode cX7_fault 35 = .ok (.iconst 1, 1) := by decide +kernel
theorem dX7_fault_36 : decode cX7_fault 36 = .ok (.aaload, 1) := by decide +kernel
theorem dX7_fault_37 : decode cX7_fault 37 = .ok (.invokevirtual 89, 3) := by decide +kernel
theorem dX7_fault_40 : decode cX7_fault 40 = .ok (.ireturn, 1) := by decide +kernel
theorem dX7_rider_0 : decode cX7_rider 0 = .ok (.iload_n 1, 1) := by decide +kernel
theorem dX7_rider_1 : decode cX7_rider 1 = .ok (.aload_n 0, 1) := by decide +kernel
theorem dX7_rider_2 : decode cX7_rider 2 = .ok (.getfield 21, 3) := by decide +kernel
theorem dX7_rider_5 : decode cX7_rider 5 = .ok (.getfield 92, 3) := by decide +kernel
theorem dX7_rider_8 : decode cX7_rider 8 = .ok (.invokestatic 70, 3) := by decide +kernel
theorem dX7_rider_11 : decode cX7_rider 11 = .ok (.ifCond .eq 6, 3) := by decide +kernel
theorem dX7_rider_14 : decode cX7_rider 14 = .ok (.bipush (-2), 2) := by decide +kernel
theorem dX7_rider_16 : decode cX7_rider 16 = .ok (.ireturn, 1) := by decide +kernel
theorem dX7_rider_17 : decode cX7_rider 17 = .ok (.iload_n 2, 1) := by decide +kernel
theorem dX7_rider_18 : decode cX7_rider 18 = .ok (.tableswitch 70 0 3 #[30, 40, 50, 60], 30) := by decide +kernel
theorem dX7_rider_48 : decode cX7_rider 48 = .ok (.aload_n 0, 1) := by decide +kernel
theorem dX7_rider_49 : decode cX7_rider 49 = .ok (.getfield 21, 3) := by decide +kernel
theorem dX7_rider_52 : decode cX7_rider 52 = .ok (.getfield 95, 3) := by decide +kernel
theorem dX7_rider_55 : decode cX7_rider 55 = .ok (.iload_n 1, 1) := by decide +kernel
theorem dX7_rider_56 : decode cX7_rider 56 = .ok (.iaload, 1) := by decide +kernel
theorem dX7_rider_57 : decode cX7_rider 57 = .ok (.ireturn, 1) := by decide +kernel
theorem dX7_rider_58 : decode cX7_rider 58 = .ok (.aload_n 0, 1) := by decide +kernel
theorem dX7_rider_59 : decode cX7_rider 59 = .ok (.getfield 21, 3) := by decide +kernel
theorem dX7_rider_62 : decode cX7_rider 62 = .ok (.getfield 98, 3) := by decide +kernel
theorem dX7_rider_65 : decode cX7_rider 65 = .ok (.iload_n 1, 1) := by decide +kernel
theorem dX7_rider_66 : decode cX7_rider 66 = .ok (.iaload, 1) := by decide +kernel
theorem dX7_rider_67 : decode cX7_rider 67 = .ok (.ireturn, 1) := by decide +kernel
theorem dX7_rider_68 : decode cX7_rider 68 = .ok (.aload_n 0, 1) := by decide +kernel
theorem dX7_rider_69 : decode cX7_rider 69 = .ok (.getfield 21, 3) := by decide +kernel
theorem dX7_rider_72 : decode cX7_rider 72 = .ok (.getfield 101, 3) := by decide +kernel
theorem dX7_rider_75 : decode cX7_rider 75 = .ok (.iload_n 1, 1) := by decide +kernel
theorem dX7_rider_76 : decode cX7_rider 76 = .ok (.iaload, 1) := by decide +kernel
theorem dX7_rider_77 : decode cX7_rider 77 = .ok (.ireturn, 1) := by decide +kernel
theorem dX7_rider_78 : decode cX7_rider 78 = .ok (.aload_n 0, 1) := by decide +kernel
theorem dX7_rider_79 : decode cX7_rider 79 = .ok (.getfield 21, 3) := by decide +kernel
theorem dX7_rider_82 : decode cX7_rider 82 = .ok (.getfield 104, 3) := by decide +kernel
theorem dX7_rider_85 : decode cX7_rider 85 = .ok (.iload_n 1, 1) := by decide +kernel
theorem dX7_rider_86 : decode cX7_rider 86 = .ok (.iaload, 1) := by decide +kernel
theorem dX7_rider_87 : decode cX7_rider 87 = .ok (.ireturn, 1) := by decide +kernel
theorem dX7_rider_88 : decode cX7_rider 88 = .ok (.bipush (-2), 2) := by decide +kernel
theorem dX7_rider_90 : decode cX7_rider 90 = .ok (.ireturn, 1) := by decide +kernel
theorem dX7_worth_0 : decode cX7_worth 0 = .ok (.iload_n 1, 1) := by decide +kernel
theorem dX7_worth_1 : decode cX7_worth 1 = .ok (.bipush 8, 2) := by decide +kernel
theorem dX7_worth_3 : decode cX7_worth 3 = .ok (.invokestatic 70, 3) := by decide +kernel
theorem dX7_worth_6 : decode cX7_worth 6 = .ok (.ifCond .ne 12, 3) := by decide +kernel
theorem dX7_worth_9 : decode cX7_worth 9 = .ok (.iload_n 2, 1) := by decide +kernel
theorem dX7_worth_10 : decode cX7_worth 10 = .ok (.bipush 10, 2) := by decide +kernel
theorem dX7_worth_12 : decode cX7_worth 12 = .ok (.invokestatic 70, 3) := by decide +kernel
theorem dX7_worth_15 : decode cX7_worth 15 = .ok (.ifCond .eq 6, 3) := by decide +kernel
theorem dX7_worth_18 : decode cX7_worth 18 = .ok (.bipush (-2), 2) := by decide +kernel
theorem dX7_worth_20 : decode cX7_worth 20 = .ok (.ireturn, 1) := by decide +kernel
theorem dX7_worth_21 : decode cX7_worth 21 = .ok (.aload_n 0, 1) := by decide +kernel
theorem dX7_worth_22 : decode cX7_worth 22 = .ok (.getfield 21, 3) := by decide +kernel
theorem dX7_worth_25 : decode cX7_worth 25 = .ok (.getfield 107, 3) := by decide +kernel
theorem dX7_worth_28 : decode cX7_worth 28 = .ok (.iload_n 1, 1) := by decide +kernel
theorem dX7_worth_29 : decode cX7_worth 29 = .ok (.iaload, 1) := by decide +kernel
theorem dX7_worth_30 : decode cX7_worth 30 = .ok (.istore_n 3, 1) := by decide +kernel
theorem dX7_worth_31 : decode cX7_worth 31 = .ok (.aload_n 0, 1) := by decide +kernel
theorem dX7_worth_32 : decode cX7_worth 32 = .ok (.getfield 21, 3) := by decide +kernel
theorem dX7_worth_35 : decode cX7_worth 35 = .ok (.getfield 107, 3) := by decide +kernel
theorem dX7_worth_38 : decode cX7_worth 38 = .ok (.iload_n 1, 1) := by decide +kernel
theorem dX7_worth_39 : decode cX7_worth 39 = .ok (.iload_n 2, 1) := by decide +kernel
theorem dX7_worth_40 : decode cX7_worth 40 = .ok (.iastore, 1) := by decide +kernel
theorem dX7_worth_41 : decode cX7_worth 41 = .ok (.aload_n 0, 1) := by decide +kernel
theorem dX7_worth_42 : decode cX7_worth 42 = .ok (.invokevirtual 67, 3) := by decide +kernel
theorem dX7_worth_45 : decode cX7_worth 45 = .ok (.iload_n 3, 1) := by decide +kernel
theorem dX7_worth_46 : decode cX7_worth 46 = .ok (.ireturn, 1) := by decide +kernel
theorem dX7_set_0 : decode cX7_set 0 = .ok (.iload_n 1, 1) := by decide +kernel
theorem dX7_set_1 : decode cX7_set 1 = .ok (.tableswitch 89 0 2 #[27, 47, 68], 27) := by decide +kernel
theorem dX7_set_28 : decode cX7_set 28 = .ok (.iload_n 2, 1) := by decide +kernel
theorem dX7_set_29 : decode cX7_set 29 = .ok (.bipush 10, 2) := by decide +kernel
theorem dX7_set_31 : decode cX7_set 31 = .ok (.invokestatic 70, 3) := by decide +kernel
theorem dX7_set_34 : decode cX7_set 34 = .ok (.ifCond .eq 8, 3) := by decide +kernel
theorem dX7_set_37 : decode cX7_set 37 = .ok (.bipush (-2), 2) := by decide +kernel
theorem dX7_set_39 : decode cX7_set 39 = .ok (.goto 8, 3) := by decide +kernel
theorem dX7_set_42 : decode cX7_set 42 = .ok (.aload_n 0, 1) := by decide +kernel
theorem dX7_set_43 : decode cX7_set 43 = .ok (.iload_n 2, 1) := by decide +kernel
theorem dX7_set_44 : decode cX7_set 44 = .ok (.invokevirtual 110, 3) := by decide +kernel
theorem dX7_set_47 : decode cX7_set 47 = .ok (.ireturn, 1) := by decide +kernel
theorem dX7_set_48 : decode cX7_set 48 = .ok (.iload_n 2, 1) := by decide +kernel
theorem dX7_set_49 : decode cX7_set 49 = .ok (.sipush 1024, 3) := by decide +kernel
theorem dX7_set_52 : decode cX7_set 52 = .ok (.invokestatic 70, 3) := by decide +kernel
theorem dX7_set_55 : decode cX7_set 55 = .ok (.ifCond .eq 8, 3) := by decide +kernel
theorem dX7_set_58 : decode cX7_set 58 = .ok (.bipush (-2), 2) := by decide +kernel
theorem dX7_set_60 : decode cX7_set 60 = .ok (.goto 8, 3) := by decide +kernel
theorem dX7_set_63 : decode cX7_set 63 = .ok (.aload_n 0, 1) := by decide +kernel
theorem dX7_set_64 : decode cX7_set 64 = .ok (.iload_n 2, 1) := by decide +kernel
theorem dX7_set_65 : decode cX7_set 65 = .ok (.invokevirtual 114, 3) := by decide +kernel
theorem dX7_set_68 : decode cX7_set 68 = .ok (.ireturn, 1) := by decide +kernel
theorem dX7_set_69 : decode cX7_set 69 = .ok (.iload_n 2, 1) := by decide +kernel
theorem dX7_set_70 : decode cX7_set 70 = .ok (.sipush 256, 3) := by decide +kernel
theorem dX7_set_73 : decode cX7_set 73 = .ok (.invokestatic 70, 3) := by decide +kernel
theorem dX7_set_76 : decode cX7_set 76 = .ok (.ifCond .eq 8, 3) := by decide +kernel
theorem dX7_set_79 : decode cX7_set 79 = .ok (.bipush (-2), 2) := by decide +kernel
theorem dX7_set_81 : decode cX7_set 81 = .ok (.goto 8, 3) := by decide +kernel
theorem dX7_set_84 : decode cX7_set 84 = .ok (.aload_n 0, 1) := by decide +kernel
theorem dX7_set_85 : decode cX7_set 85 = .ok (.iload_n 2, 1) := by decide +kernel
theorem dX7_set_86 : decode cX7_set 86 = .ok (.invokevirtual 117, 3) := by decide +kernel
theorem dX7_set_89 : decode cX7_set 89 = .ok (.ireturn, 1) := by decide +kernel
theorem dX7_set_90 : decode cX7_set 90 = .ok (.bipush (-2), 2) := by decide +kernel
theorem dX7_set_92 : decode cX7_set 92 = .ok (.ireturn, 1) := by decide +kernel
theorem dX7_has_0 : decode cX7_has 0 = .ok (.iload_n 1, 1) := by decide +kernel
theorem dX7_has_1 : decode cX7_has 1 = .ok (.bipush 10, 2) := by decide +kernel
theorem dX7_has_3 : decode cX7_has 3 = .ok (.invokestatic 70, 3) := by decide +kernel
theorem dX7_has_6 : decode cX7_has 6 = .ok (.ifCond .ne 17, 3) := by decide +kernel
theorem dX7_has_9 : decode cX7_has 9 = .ok (.iload_n 2, 1) := by decide +kernel
theorem dX7_has_10 : decode cX7_has 10 = .ok (.aload_n 0, 1) := by decide +kernel
theorem dX7_has_11 : decode cX7_has 11 = .ok (.getfield 21, 3) := by decide +kernel
theorem dX7_has_14 : decode cX7_has 14 = .ok (.getfield 92, 3) := by decide +kernel
theorem dX7_has_17 : decode cX7_has 17 = .ok (.invokestatic 70, 3) := by decide +kernel
theorem dX7_has_20 : decode cX7_has 20 = .ok (.ifCond .eq 6, 3) := by decide +kernel
theorem dX7_has_23 : decode cX7_has 23 = .ok (.bipush (-2), 2) := by decide +kernel
theorem dX7_has_25 : decode cX7_has 25 = .ok (.ireturn, 1) := by decide +kernel
theorem dX7_has_26 : decode cX7_has 26 = .ok (.aload_n 0, 1) := by decide +kernel
theorem dX7_has_27 : decode cX7_has 27 = .ok (.getfield 30, 3) := by decide +kernel
theorem dX7_has_30 : decode cX7_has 30 = .ok (.iload_n 1, 1) := by decide +kernel
theorem dX7_has_31 : decode cX7_has 31 = .ok (.iload_n 2, 1) := by decide +kernel
theorem dX7_has_32 : decode cX7_has 32 = .ok (.invokevirtual 120, 3) := by decide +kernel
theorem dX7_has_35 : decode cX7_has 35 = .ok (.ireturn, 1) := by decide +kernel
theorem dX7_torn_0 : decode cX7_torn 0 = .ok (.iload_n 1, 1) := by decide +kernel
theorem dX7_torn_1 : decode cX7_torn 1 = .ok (.bipush 10, 2) := by decide +kernel
theorem dX7_torn_3 : decode cX7_torn 3 = .ok (.invokestatic 70, 3) := by decide +kernel
theorem dX7_torn_6 : decode cX7_torn 6 = .ok (.ifCond .ne 17, 3) := by decide +kernel
theorem dX7_torn_9 : decode cX7_torn 9 = .ok (.iload_n 2, 1) := by decide +kernel
theorem dX7_torn_10 : decode cX7_torn 10 = .ok (.aload_n 0, 1) := by decide +kernel
theorem dX7_torn_11 : decode cX7_torn 11 = .ok (.getfield 21, 3) := by decide +kernel
theorem dX7_torn_14 : decode cX7_torn 14 = .ok (.getfield 92, 3) := by decide +kernel
theorem dX7_torn_17 : decode cX7_torn 17 = .ok (.invokestatic 70, 3) := by decide +kernel
theorem dX7_torn_20 : decode cX7_torn 20 = .ok (.ifCond .eq 6, 3) := by decide +kernel
theorem dX7_torn_23 : decode cX7_torn 23 = .ok (.bipush (-2), 2) := by decide +kernel
theorem dX7_torn_25 : decode cX7_torn 25 = .ok (.ireturn, 1) := by decide +kernel
theorem dX7_torn_26 : decode cX7_torn 26 = .ok (.aload_n 0, 1) := by decide +kernel
theorem dX7_torn_27 : decode cX7_torn 27 = .ok (.getfield 30, 3) := by decide +kernel
theorem dX7_torn_30 : decode cX7_torn 30 = .ok (.iload_n 1, 1) := by decide +kernel
theorem dX7_torn_31 : decode cX7_torn 31 = .ok (.invokevirtual 124, 3) := by decide +kernel
theorem dX7_torn_34 : decode cX7_torn 34 = .ok (.iload_n 2, 1) := by decide +kernel
theorem dX7_torn_35 : decode cX7_torn 35 = .ok (.ishr, 1) := by decide +kernel
theorem dX7_torn_36 : decode cX7_torn 36 = .ok (.iconst 1, 1) := by decide +kernel
theorem dX7_torn_37 : decode cX7_torn 37 = .ok (.iand, 1) := by decide +kernel
theorem dX7_torn_38 : decode cX7_torn 38 = .ok (.ireturn, 1) := by decide +kernel
theorem dX7_bag_0 : decode cX7_bag 0 = .ok (.iload_n 1, 1) := by decide +kernel
theorem dX7_bag_1 : decode cX7_bag 1 = .ok (.bipush 10, 2) := by decide +kernel
theorem dX7_bag_3 : decode cX7_bag 3 = .ok (.invokestatic 70, 3) := by decide +kernel
theorem dX7_bag_6 : decode cX7_bag 6 = .ok (.ifCond .ne 14, 3) := by decide +kernel
theorem dX7_bag_9 : decode cX7_bag 9 = .ok (.iload_n 2, 1) := by decide +kernel
theorem dX7_bag_10 : decode cX7_bag 10 = .ok (.iconst (-1), 1) := by decide +kernel
theorem dX7_bag_11 : decode cX7_bag 11 = .ok (.if_icmp .lt 9, 3) := by decide +kernel
theorem dX7_bag_14 : decode cX7_bag 14 = .ok (.iload_n 2, 1) := by decide +kernel
theorem dX7_bag_15 : decode cX7_bag 15 = .ok (.bipush 27, 2) := by decide +kernel
theorem dX7_bag_17 : decode cX7_bag 17 = .ok (.if_icmp .le 6, 3) := by decide +kernel
theorem dX7_bag_20 : decode cX7_bag 20 = .ok (.bipush (-2), 2) := by decide +kernel
theorem dX7_bag_22 : decode cX7_bag 22 = .ok (.ireturn, 1) := by decide +kernel
theorem dX7_bag_23 : decode cX7_bag 23 = .ok (.aload_n 0, 1) := by decide +kernel
theorem dX7_bag_24 : decode cX7_bag 24 = .ok (.getfield 30, 3) := by decide +kernel
theorem dX7_bag_27 : decode cX7_bag 27 = .ok (.iload_n 1, 1) := by decide +kernel
theorem dX7_bag_28 : decode cX7_bag 28 = .ok (.invokevirtual 127, 3) := by decide +kernel
theorem dX7_bag_31 : decode cX7_bag 31 = .ok (.astore_n 3, 1) := by decide +kernel
theorem dX7_bag_32 : decode cX7_bag 32 = .ok (.iload_n 2, 1) := by decide +kernel
theorem dX7_bag_33 : decode cX7_bag 33 = .ok (.iconst (-1), 1) := by decide +kernel
theorem dX7_bag_34 : decode cX7_bag 34 = .ok (.if_icmp .ne 8, 3) := by decide +kernel
theorem dX7_bag_37 : decode cX7_bag 37 = .ok (.aload_n 3, 1) := by decide +kernel
theorem dX7_bag_38 : decode cX7_bag 38 = .ok (.getfield 131, 3) := by decide +kernel
theorem dX7_bag_41 : decode cX7_bag 41 = .ok (.ireturn, 1) := by decide +kernel
theorem dX7_bag_42 : decode cX7_bag 42 = .ok (.iload_n 2, 1) := by decide +kernel
theorem dX7_bag_43 : decode cX7_bag 43 = .ok (.aload_n 3, 1) := by decide +kernel
theorem dX7_bag_44 : decode cX7_bag 44 = .ok (.getfield 131, 3) := by decide +kernel
theorem dX7_bag_47 : decode cX7_bag 47 = .ok (.if_icmp .ge 12, 3) := by decide +kernel
theorem dX7_bag_50 : decode cX7_bag 50 = .ok (.aload_n 3, 1) := by decide +kernel
theorem dX7_bag_51 : decode cX7_bag 51 = .ok (.getfield 134, 3) := by decide +kernel
theorem dX7_bag_54 : decode cX7_bag 54 = .ok (.iload_n 2, 1) := by decide +kernel
theorem dX7_bag_55 : decode cX7_bag 55 = .ok (.iaload, 1) := by decide +kernel
theorem dX7_bag_56 : decode cX7_bag 56 = .ok (.goto 4, 3) := by decide +kernel
theorem dX7_bag_59 : decode cX7_bag 59 = .ok (.iconst (-1), 1) := by decide +kernel
theorem dX7_bag_60 : decode cX7_bag 60 = .ok (.ireturn, 1) := by decide +kernel
theorem dX7_gets_0 : decode cX7_gets 0 = .ok (.iload_n 1, 1) := by decide +kernel
theorem dX7_gets_1 : decode cX7_gets 1 = .ok (.aload_n 0, 1) := by decide +kernel
theorem dX7_gets_2 : decode cX7_gets 2 = .ok (.getfield 21, 3) := by decide +kernel
theorem dX7_gets_5 : decode cX7_gets 5 = .ok (.getfield 92, 3) := by decide +kernel
theorem dX7_gets_8 : decode cX7_gets 8 = .ok (.invokestatic 70, 3) := by decide +kernel
theorem dX7_gets_11 : decode cX7_gets 11 = .ok (.ifCond .eq 6, 3) := by decide +kernel
theorem dX7_gets_14 : decode cX7_gets 14 = .ok (.bipush (-2), 2) := by decide +kernel
theorem dX7_gets_16 : decode cX7_gets 16 = .ok (.ireturn, 1) := by decide +kernel
theorem dX7_gets_17 : decode cX7_gets 17 = .ok (.iconst 0, 1) := by decide +kernel
theorem dX7_gets_18 : decode cX7_gets 18 = .ok (.istore_n 2, 1) := by decide +kernel
theorem dX7_gets_19 : decode cX7_gets 19 = .ok (.iload_n 2, 1) := by decide +kernel
theorem dX7_gets_20 : decode cX7_gets 20 = .ok (.bipush 10, 2) := by decide +kernel
theorem dX7_gets_22 : decode cX7_gets 22 = .ok (.if_icmp .ge 27, 3) := by decide +kernel
theorem dX7_gets_25 : decode cX7_gets 25 = .ok (.aload_n 0, 1) := by decide +kernel
theorem dX7_gets_26 : decode cX7_gets 26 = .ok (.getfield 30, 3) := by decide +kernel
theorem dX7_gets_29 : decode cX7_gets 29 = .ok (.iload_n 2, 1) := by decide +kernel
theorem dX7_gets_30 : decode cX7_gets 30 = .ok (.invokevirtual 137, 3) := by decide +kernel
theorem dX7_gets_33 : decode cX7_gets 33 = .ok (.iload_n 1, 1) := by decide +kernel
theorem dX7_gets_34 : decode cX7_gets 34 = .ok (.ishr, 1) := by decide +kernel
theorem dX7_gets_35 : decode cX7_gets 35 = .ok (.iconst 1, 1) := by decide +kernel
theorem dX7_gets_36 : decode cX7_gets 36 = .ok (.iand, 1) := by decide +kernel
theorem dX7_gets_37 : decode cX7_gets 37 = .ok (.iconst 1, 1) := by decide +kernel
theorem dX7_gets_38 : decode cX7_gets 38 = .ok (.if_icmp .ne 5, 3) := by decide +kernel
theorem dX7_gets_41 : decode cX7_gets 41 = .ok (.iload_n 2, 1) := by decide +kernel
theorem dX7_gets_42 : decode cX7_gets 42 = .ok (.ireturn, 1) := by decide +kernel
theorem dX7_gets_43 : decode cX7_gets 43 = .ok (.iinc 2 1, 3) := by decide +kernel
theorem dX7_gets_46 : decode cX7_gets 46 = .ok (.goto (-27), 3) := by decide +kernel
theorem dX7_gets_49 : decode cX7_gets 49 = .ok (.iconst (-1), 1) := by decide +kernel
theorem dX7_gets_50 : decode cX7_gets 50 = .ok (.ireturn, 1) := by decide +kernel
theorem dX7_first_0 : decode cX7_first 0 = .ok (.iload_n 1, 1) := by decide +kernel
theorem dX7_first_1 : decode cX7_first 1 = .ok (.tableswitch 51 0 2 #[27, 35, 43], 27) := by decide +kernel
theorem dX7_first_28 : decode cX7_first 28 = .ok (.aload_n 0, 1) := by decide +kernel
theorem dX7_first_29 : decode cX7_first 29 = .ok (.getfield 30, 3) := by decide +kernel
theorem dX7_first_32 : decode cX7_first 32 = .ok (.getfield 140, 3) := by decide +kernel
theorem dX7_first_35 : decode cX7_first 35 = .ok (.ireturn, 1) := by decide +kernel
theorem dX7_first_36 : decode cX7_first 36 = .ok (.aload_n 0, 1) := by decide +kernel
theorem dX7_first_37 : decode cX7_first 37 = .ok (.getfield 30, 3) := by decide +kernel
theorem dX7_first_40 : decode cX7_first 40 = .ok (.getfield 143, 3) := by decide +kernel
theorem dX7_first_43 : decode cX7_first 43 = .ok (.ireturn, 1) := by decide +kernel
theorem dX7_first_44 : decode cX7_first 44 = .ok (.aload_n 0, 1) := by decide +kernel
theorem dX7_first_45 : decode cX7_first 45 = .ok (.getfield 30, 3) := by decide +kernel
theorem dX7_first_48 : decode cX7_first 48 = .ok (.getfield 146, 3) := by decide +kernel
theorem dX7_first_51 : decode cX7_first 51 = .ok (.ireturn, 1) := by decide +kernel
theorem dX7_first_52 : decode cX7_first 52 = .ok (.bipush (-2), 2) := by decide +kernel
theorem dX7_first_54 : decode cX7_first 54 = .ok (.ireturn, 1) := by decide +kernel
theorem dX7_still_0 : decode cX7_still 0 = .ok (.aload_n 0, 1) := by decide +kernel
theorem dX7_still_1 : decode cX7_still 1 = .ok (.getfield 30, 3) := by decide +kernel
theorem dX7_still_4 : decode cX7_still 4 = .ok (.getfield 149, 3) := by decide +kernel
theorem dX7_still_7 : decode cX7_still 7 = .ok (.ireturn, 1) := by decide +kernel
theorem dX7_served_0 : decode cX7_served 0 = .ok (.iload_n 1, 1) := by decide +kernel
theorem dX7_served_1 : decode cX7_served 1 = .ok (.bipush 10, 2) := by decide +kernel
theorem dX7_served_3 : decode cX7_served 3 = .ok (.invokestatic 70, 3) := by decide +kernel
theorem dX7_served_6 : decode cX7_served 6 = .ok (.ifCond .eq 8, 3) := by decide +kernel
theorem dX7_served_9 : decode cX7_served 9 = .ok (.bipush (-2), 2) := by decide +kernel
theorem dX7_served_11 : decode cX7_served 11 = .ok (.goto 11, 3) := by decide +kernel
theorem dX7_served_14 : decode cX7_served 14 = .ok (.aload_n 0, 1) := by decide +kernel
theorem dX7_served_15 : decode cX7_served 15 = .ok (.getfield 30, 3) := by decide +kernel
theorem dX7_served_18 : decode cX7_served 18 = .ok (.iload_n 1, 1) := by decide +kernel
theorem dX7_served_19 : decode cX7_served 19 = .ok (.invokevirtual 137, 3) := by decide +kernel
theorem dX7_served_22 : decode cX7_served 22 = .ok (.ireturn, 1) := by decide +kernel
theorem dX7_rings_0 : decode cX7_rings 0 = .ok (.iload_n 1, 1) := by decide +kernel
theorem dX7_rings_1 : decode cX7_rings 1 = .ok (.iconst 2, 1) := by decide +kernel
theorem dX7_rings_2 : decode cX7_rings 2 = .ok (.invokestatic 70, 3) := by decide +kernel
theorem dX7_rings_5 : decode cX7_rings 5 = .ok (.ifCond .eq 6, 3) := by decide +kernel
theorem dX7_rings_8 : decode cX7_rings 8 = .ok (.bipush (-2), 2) := by decide +kernel
theorem dX7_rings_10 : decode cX7_rings 10 = .ok (.ireturn, 1) := by decide +kernel
theorem dX7_rings_11 : decode cX7_rings 11 = .ok (.iconst 0, 1) := by decide +kernel
theorem dX7_rings_12 : decode cX7_rings 12 = .ok (.istore_n 2, 1) := by decide +kernel
theorem dX7_rings_13 : decode cX7_rings 13 = .ok (.iconst (-1), 1) := by decide +kernel
theorem dX7_rings_14 : decode cX7_rings 14 = .ok (.istore_n 3, 1) := by decide +kernel
theorem dX7_rings_15 : decode cX7_rings 15 = .ok (.iconst 0, 1) := by decide +kernel
theorem dX7_rings_16 : decode cX7_rings 16 = .ok (.istore 4, 2) := by decide +kernel
theorem dX7_rings_18 : decode cX7_rings 18 = .ok (.iload 4, 2) := by decide +kernel
theorem dX7_rings_20 : decode cX7_rings 20 = .ok (.aload_n 0, 1) := by decide +kernel
theorem dX7_rings_21 : decode cX7_rings 21 = .ok (.getfield 21, 3) := by decide +kernel
theorem dX7_rings_24 : decode cX7_rings 24 = .ok (.getfield 92, 3) := by decide +kernel
theorem dX7_rings_27 : decode cX7_rings 27 = .ok (.if_icmp .ge 116, 3) := by decide +kernel
theorem dX7_rings_30 : decode cX7_rings 30 = .ok (.iload 4, 2) := by decide +kernel
theorem dX7_rings_32 : decode cX7_rings 32 = .ok (.iconst 1, 1) := by decide +kernel
theorem dX7_rings_33 : decode cX7_rings 33 = .ok (.iadd, 1) := by decide +kernel
theorem dX7_rings_34 : decode cX7_rings 34 = .ok (.istore 5, 2) := by decide +kernel
theorem dX7_rings_36 : decode cX7_rings 36 = .ok (.iload 5, 2) := by decide +kernel
theorem dX7_rings_38 : decode cX7_rings 38 = .ok (.aload_n 0, 1) := by decide +kernel
theorem dX7_rings_39 : decode cX7_rings 39 = .ok (.getfield 21, 3) := by decide +kernel
theorem dX7_rings_42 : decode cX7_rings 42 = .ok (.getfield 92, 3) := by decide +kernel
theorem dX7_rings_45 : decode cX7_rings 45 = .ok (.if_icmp .ge 92, 3) := by decide +kernel
theorem dX7_rings_48 : decode cX7_rings 48 = .ok (.iload 5, 2) := by decide +kernel
theorem dX7_rings_50 : decode cX7_rings 50 = .ok (.iconst 1, 1) := by decide +kernel
theorem dX7_rings_51 : decode cX7_rings 51 = .ok (.iadd, 1) := by decide +kernel
theorem dX7_rings_52 : decode cX7_rings 52 = .ok (.istore 6, 2) := by decide +kernel
theorem dX7_rings_54 : decode cX7_rings 54 = .ok (.iload 6, 2) := by decide +kernel
theorem dX7_rings_56 : decode cX7_rings 56 = .ok (.aload_n 0, 1) := by decide +kernel
theorem dX7_rings_57 : decode cX7_rings 57 = .ok (.getfield 21, 3) := by decide +kernel
theorem dX7_rings_60 : decode cX7_rings 60 = .ok (.getfield 92, 3) := by decide +kernel
theorem dX7_rings_63 : decode cX7_rings 63 = .ok (.if_icmp .ge 68, 3) := by decide +kernel
theorem dX7_rings_66 : decode cX7_rings 66 = .ok (.aload_n 0, 1) := by decide +kernel
theorem dX7_rings_67 : decode cX7_rings 67 = .ok (.getfield 21, 3) := by decide +kernel
theorem dX7_rings_70 : decode cX7_rings 70 = .ok (.iload 4, 2) := by decide +kernel
theorem dX7_rings_72 : decode cX7_rings 72 = .ok (.iload 5, 2) := by decide +kernel
theorem dX7_rings_74 : decode cX7_rings 74 = .ok (.iload 6, 2) := by decide +kernel
theorem dX7_rings_76 : decode cX7_rings 76 = .ok (.invokevirtual 152, 3) := by decide +kernel
theorem dX7_rings_79 : decode cX7_rings 79 = .ok (.ifCond .ne 19, 3) := by decide +kernel
theorem dX7_rings_82 : decode cX7_rings 82 = .ok (.aload_n 0, 1) := by decide +kernel
theorem dX7_rings_83 : decode cX7_rings 83 = .ok (.getfield 21, 3) := by decide +kernel
theorem dX7_rings_86 : decode cX7_rings 86 = .ok (.iload 4, 2) := by decide +kernel
theorem dX7_rings_88 : decode cX7_rings 88 = .ok (.iload 6, 2) := by decide +kernel
theorem dX7_rings_90 : decode cX7_rings 90 = .ok (.iload 5, 2) := by decide +kernel
theorem dX7_rings_92 : decode cX7_rings 92 = .ok (.invokevirtual 152, 3) := by decide +kernel
theorem dX7_rings_95 : decode cX7_rings 95 = .ok (.ifCond .eq 30, 3) := by decide +kernel
theorem dX7_rings_98 : decode cX7_rings 98 = .ok (.iinc 2 1, 3) := by decide +kernel
theorem dX7_rings_101 : decode cX7_rings 101 = .ok (.iload_n 3, 1) := by decide +kernel
theorem dX7_rings_102 : decode cX7_rings 102 = .ok (.iconst (-1), 1) := by decide +kernel
theorem dX7_rings_103 : decode cX7_rings 103 = .ok (.if_icmp .ne 20, 3) := by decide +kernel
theorem dX7_rings_106 : decode cX7_rings 106 = .ok (.bipush 64, 2) := by decide +kernel
theorem dX7_rings_108 : decode cX7_rings 108 = .ok (.iload 4, 2) := by decide +kernel
theorem dX7_rings_110 : decode cX7_rings 110 = .ok (.imul, 1) := by decide +kernel
theorem dX7_rings_111 : decode cX7_rings 111 = .ok (.bipush 8, 2) := by decide +kernel
theorem dX7_rings_113 : decode cX7_rings 113 = .ok (.iload 5, 2) := by decide +kernel
theorem dX7_rings_115 : decode cX7_rings 115 = .ok (.imul, 1) := by decide +kernel
theorem dX7_rings_116 : decode cX7_rings 116 = .ok (.iadd, 1) := by decide +kernel
theorem dX7_rings_117 : decode cX7_rings 117 = .ok (.iload 6, 2) := by decide +kernel
theorem dX7_rings_119 : decode cX7_rings 119 = .ok (.iadd, 1) := by decide +kernel
theorem dX7_rings_120 : decode cX7_rings 120 = .ok (.goto 4, 3) := by decide +kernel
theorem dX7_rings_123 : decode cX7_rings 123 = .ok (.iload_n 3, 1) := by decide +kernel
theorem dX7_rings_124 : decode cX7_rings 124 = .ok (.istore_n 3, 1) := by decide +kernel
theorem dX7_rings_125 : decode cX7_rings 125 = .ok (.iinc 6 1, 3) := by decide +kernel
theorem dX7_rings_128 : decode cX7_rings 128 = .ok (.goto (-74), 3) := by decide +kernel
theorem dX7_rings_131 : decode cX7_rings 131 = .ok (.iinc 5 1, 3) := by decide +kernel
theorem dX7_rings_134 : decode cX7_rings 134 = .ok (.goto (-98), 3) := by decide +kernel
theorem dX7_rings_137 : decode cX7_rings 137 = .ok (.iinc 4 1, 3) := by decide +kernel
theorem dX7_rings_140 : decode cX7_rings 140 = .ok (.goto (-122), 3) := by decide +kernel
theorem dX7_rings_143 : decode cX7_rings 143 = .ok (.iload_n 1, 1) := by decide +kernel
theorem dX7_rings_144 : decode cX7_rings 144 = .ok (.ifCond .ne 7, 3) := by decide +kernel
theorem dX7_rings_147 : decode cX7_rings 147 = .ok (.iload_n 2, 1) := by decide +kernel
theorem dX7_rings_148 : decode cX7_rings 148 = .ok (.goto 4, 3) := by decide +kernel
theorem dX7_rings_151 : decode cX7_rings 151 = .ok (.iload_n 3, 1) := by decide +kernel
theorem dX7_rings_152 : decode cX7_rings 152 = .ok (.ireturn, 1) := by decide +kernel
theorem dX7_open_0 : decode cX7_open 0 = .ok (.iload_n 1, 1) := by decide +kernel
theorem dX7_open_1 : decode cX7_open 1 = .ok (.aload_n 0, 1) := by decide +kernel
theorem dX7_open_2 : decode cX7_open 2 = .ok (.getfield 21, 3) := by decide +kernel
theorem dX7_open_5 : decode cX7_open 5 = .ok (.getfield 92, 3) := by decide +kernel
theorem dX7_open_8 : decode cX7_open 8 = .ok (.invokestatic 70, 3) := by decide +kernel
theorem dX7_open_11 : decode cX7_open 11 = .ok (.ifCond .ne 11, 3) := by decide +kernel
theorem dX7_open_14 : decode cX7_open 14 = .ok (.iload_n 2, 1) := by decide +kernel
theorem dX7_open_15 : decode cX7_open 15 = .ok (.iconst 2, 1) := by decide +kernel
theorem dX7_open_16 : decode cX7_open 16 = .ok (.invokestatic 70, 3) := by decide +kernel
theorem dX7_open_19 : decode cX7_open 19 = .ok (.ifCond .eq 6, 3) := by decide +kernel
theorem dX7_open_22 : decode cX7_open 22 = .ok (.bipush (-2), 2) := by decide +kernel
theorem dX7_open_24 : decode cX7_open 24 = .ok (.ireturn, 1) := by decide +kernel
theorem dX7_open_25 : decode cX7_open 25 = .ok (.iconst 0, 1) := by decide +kernel
theorem dX7_open_26 : decode cX7_open 26 = .ok (.istore_n 3, 1) := by decide +kernel
theorem dX7_open_27 : decode cX7_open 27 = .ok (.iload_n 3, 1) := by decide +kernel
theorem dX7_open_28 : decode cX7_open 28 = .ok (.iconst 3, 1) := by decide +kernel
theorem dX7_open_29 : decode cX7_open 29 = .ok (.if_icmp .gt 69, 3) := by decide +kernel
theorem dX7_open_32 : decode cX7_open 32 = .ok (.iconst 0, 1) := by decide +kernel
theorem dX7_open_33 : decode cX7_open 33 = .ok (.istore 4, 2) := by decide +kernel
theorem dX7_open_35 : decode cX7_open 35 = .ok (.iload 4, 2) := by decide +kernel
theorem dX7_open_37 : decode cX7_open 37 = .ok (.sipush 1024, 3) := by decide +kernel
theorem dX7_open_40 : decode cX7_open 40 = .ok (.if_icmp .ge 52, 3) := by decide +kernel
theorem dX7_open_43 : decode cX7_open 43 = .ok (.iload 4, 2) := by decide +kernel
theorem dX7_open_45 : decode cX7_open 45 = .ok (.invokestatic 156, 3) := by decide +kernel
theorem dX7_open_48 : decode cX7_open 48 = .ok (.iload_n 3, 1) := by decide +kernel
theorem dX7_open_49 : decode cX7_open 49 = .ok (.if_icmp .ne 37, 3) := by decide +kernel
theorem dX7_open_52 : decode cX7_open 52 = .ok (.aload_n 0, 1) := by decide +kernel
theorem dX7_open_53 : decode cX7_open 53 = .ok (.getfield 40, 3) := by decide +kernel
theorem dX7_open_56 : decode cX7_open 56 = .ok (.iload 4, 2) := by decide +kernel
theorem dX7_open_58 : decode cX7_open 58 = .ok (.bipush 9, 2) := by decide +kernel
theorem dX7_open_60 : decode cX7_open 60 = .ok (.aload_n 0, 1) := by decide +kernel
theorem dX7_open_61 : decode cX7_open 61 = .ok (.getfield 34, 3) := by decide +kernel
theorem dX7_open_64 : decode cX7_open 64 = .ok (.invokevirtual 161, 3) := by decide +kernel
theorem dX7_open_67 : decode cX7_open 67 = .ok (.iload_n 1, 1) := by decide +kernel
theorem dX7_open_68 : decode cX7_open 68 = .ok (.ishr, 1) := by decide +kernel
theorem dX7_open_69 : decode cX7_open 69 = .ok (.iconst 1, 1) := by decide +kernel
theorem dX7_open_70 : decode cX7_open 70 = .ok (.iand, 1) := by decide +kernel
theorem dX7_open_71 : decode cX7_open 71 = .ok (.iconst 1, 1) := by decide +kernel
theorem dX7_open_72 : decode cX7_open 72 = .ok (.if_icmp .ne 14, 3) := by decide +kernel
theorem dX7_open_75 : decode cX7_open 75 = .ok (.iload_n 2, 1) := by decide +kernel
theorem dX7_open_76 : decode cX7_open 76 = .ok (.ifCond .ne 7, 3) := by decide +kernel
theorem dX7_open_79 : decode cX7_open 79 = .ok (.iload_n 3, 1) := by decide +kernel
theorem dX7_open_80 : decode cX7_open 80 = .ok (.goto 5, 3) := by decide +kernel
theorem dX7_open_83 : decode cX7_open 83 = .ok (.iload 4, 2) := by decide +kernel
theorem dX7_open_85 : decode cX7_open 85 = .ok (.ireturn, 1) := by decide +kernel
theorem dX7_open_86 : decode cX7_open 86 = .ok (.iinc 4 1, 3) := by decide +kernel
theorem dX7_open_89 : decode cX7_open 89 = .ok (.goto (-54), 3) := by decide +kernel
theorem dX7_open_92 : decode cX7_open 92 = .ok (.iinc 3 1, 3) := by decide +kernel
theorem dX7_open_95 : decode cX7_open 95 = .ok (.goto (-68), 3) := by decide +kernel
theorem dX7_open_98 : decode cX7_open 98 = .ok (.iconst (-1), 1) := by decide +kernel
theorem dX7_open_99 : decode cX7_open 99 = .ok (.ireturn, 1) := by decide +kernel
theorem dX7_least_0 : decode cX7_least 0 = .ok (.iload_n 1, 1) := by decide +kernel
theorem dX7_least_1 : decode cX7_least 1 = .ok (.iconst 2, 1) := by decide +kernel
theorem dX7_least_2 : decode cX7_least 2 = .ok (.invokestatic 70, 3) := by decide +kernel
theorem dX7_least_5 : decode cX7_least 5 = .ok (.ifCond .eq 6, 3) := by decide +kernel
theorem dX7_least_8 : decode cX7_least 8 = .ok (.bipush (-2), 2) := by decide +kernel
theorem dX7_least_10 : decode cX7_least 10 = .ok (.ireturn, 1) := by decide +kernel
theorem dX7_least_11 : decode cX7_least 11 = .ok (.iconst 0, 1) := by decide +kernel
theorem dX7_least_12 : decode cX7_least 12 = .ok (.istore_n 2, 1) := by decide +kernel
theorem dX7_least_13 : decode cX7_least 13 = .ok (.iconst (-1), 1) := by decide +kernel
theorem dX7_least_14 : decode cX7_least 14 = .ok (.istore_n 3, 1) := by decide +kernel
theorem dX7_least_15 : decode cX7_least 15 = .ok (.iconst 0, 1) := by decide +kernel
theorem dX7_least_16 : decode cX7_least 16 = .ok (.istore 4, 2) := by decide +kernel
theorem dX7_least_18 : decode cX7_least 18 = .ok (.iload 4, 2) := by decide +kernel
theorem dX7_least_20 : decode cX7_least 20 = .ok (.bipush 9, 2) := by decide +kernel
theorem dX7_least_22 : decode cX7_least 22 = .ok (.if_icmp .gt 36, 3) := by decide +kernel
theorem dX7_least_25 : decode cX7_least 25 = .ok (.aload_n 0, 1) := by decide +kernel
theorem dX7_least_26 : decode cX7_least 26 = .ok (.iload 4, 2) := by decide +kernel
theorem dX7_least_28 : decode cX7_least 28 = .ok (.invokevirtual 165, 3) := by decide +kernel
theorem dX7_least_31 : decode cX7_least 31 = .ok (.aload_n 0, 1) := by decide +kernel
theorem dX7_least_32 : decode cX7_least 32 = .ok (.getfield 34, 3) := by decide +kernel
theorem dX7_least_35 : decode cX7_least 35 = .ok (.invokevirtual 168, 3) := by decide +kernel
theorem dX7_least_38 : decode cX7_least 38 = .ok (.istore 5, 2) := by decide +kernel
theorem dX7_least_40 : decode cX7_least 40 = .ok (.iload 5, 2) := by decide +kernel
theorem dX7_least_42 : decode cX7_least 42 = .ok (.iload_n 3, 1) := by decide +kernel
theorem dX7_least_43 : decode cX7_least 43 = .ok (.if_icmp .le 9, 3) := by decide +kernel
theorem dX7_least_46 : decode cX7_least 46 = .ok (.iload 5, 2) := by decide +kernel
theorem dX7_least_48 : decode cX7_least 48 = .ok (.istore_n 3, 1) := by decide +kernel
theorem dX7_least_49 : decode cX7_least 49 = .ok (.iload 4, 2) := by decide +kernel
theorem dX7_least_51 : decode cX7_least 51 = .ok (.istore_n 2, 1) := by decide +kernel
theorem dX7_least_52 : decode cX7_least 52 = .ok (.iinc 4 1, 3) := by decide +kernel
theorem dX7_least_55 : decode cX7_least 55 = .ok (.goto (-37), 3) := by decide +kernel
theorem dX7_least_58 : decode cX7_least 58 = .ok (.iload_n 1, 1) := by decide +kernel
theorem dX7_least_59 : decode cX7_least 59 = .ok (.ifCond .ne 7, 3) := by decide +kernel
theorem dX7_least_62 : decode cX7_least 62 = .ok (.iload_n 2, 1) := by decide +kernel
theorem dX7_least_63 : decode cX7_least 63 = .ok (.goto 4, 3) := by decide +kernel
theorem dX7_least_66 : decode cX7_least 66 = .ok (.iload_n 3, 1) := by decide +kernel
theorem dX7_least_67 : decode cX7_least 67 = .ok (.ireturn, 1) := by decide +kernel
theorem dX7_top_0 : decode cX7_top 0 = .ok (.iload_n 1, 1) := by decide +kernel
theorem dX7_top_1 : decode cX7_top 1 = .ok (.iconst 2, 1) := by decide +kernel
theorem dX7_top_2 : decode cX7_top 2 = .ok (.invokestatic 70, 3) := by decide +kernel
theorem dX7_top_5 : decode cX7_top 5 = .ok (.ifCond .eq 6, 3) := by decide +kernel
theorem dX7_top_8 : decode cX7_top 8 = .ok (.bipush (-2), 2) := by decide +kernel
theorem dX7_top_10 : decode cX7_top 10 = .ok (.ireturn, 1) := by decide +kernel
theorem dX7_top_11 : decode cX7_top 11 = .ok (.iconst 0, 1) := by decide +kernel
theorem dX7_top_12 : decode cX7_top 12 = .ok (.istore_n 2, 1) := by decide +kernel
theorem dX7_top_13 : decode cX7_top 13 = .ok (.iconst (-1), 1) := by decide +kernel
theorem dX7_top_14 : decode cX7_top 14 = .ok (.istore_n 3, 1) := by decide +kernel
theorem dX7_top_15 : decode cX7_top 15 = .ok (.iconst 0, 1) := by decide +kernel
theorem dX7_top_16 : decode cX7_top 16 = .ok (.istore 4, 2) := by decide +kernel
theorem dX7_top_18 : decode cX7_top 18 = .ok (.iload 4, 2) := by decide +kernel
theorem dX7_top_20 : decode cX7_top 20 = .ok (.bipush 8, 2) := by decide +kernel
theorem dX7_top_22 : decode cX7_top 22 = .ok (.if_icmp .ge 56, 3) := by decide +kernel
theorem dX7_top_25 : decode cX7_top 25 = .ok (.aload_n 0, 1) := by decide +kernel
theorem dX7_top_26 : decode cX7_top 26 = .ok (.getfield 34, 3) := by decide +kernel
theorem dX7_top_29 : decode cX7_top 29 = .ok (.invokevirtual 171, 3) := by decide +kernel
theorem dX7_top_32 : decode cX7_top 32 = .ok (.aload_n 0, 1) := by decide +kernel
theorem dX7_top_33 : decode cX7_top 33 = .ok (.getfield 34, 3) := by decide +kernel
theorem dX7_top_36 : decode cX7_top 36 = .ok (.getfield 174, 3) := by decide +kernel
theorem dX7_top_39 : decode cX7_top 39 = .ok (.iload 4, 2) := by decide +kernel
theorem dX7_top_41 : decode cX7_top 41 = .ok (.invokevirtual 178, 3) := by decide +kernel
theorem dX7_top_44 : decode cX7_top 44 = .ok (.aload_n 0, 1) := by decide +kernel
theorem dX7_top_45 : decode cX7_top 45 = .ok (.getfield 34, 3) := by decide +kernel
theorem dX7_top_48 : decode cX7_top 48 = .ok (.invokevirtual 181, 3) := by decide +kernel
theorem dX7_top_51 : decode cX7_top 51 = .ok (.aload_n 0, 1) := by decide +kernel
theorem dX7_top_52 : decode cX7_top 52 = .ok (.getfield 34, 3) := by decide +kernel
theorem dX7_top_55 : decode cX7_top 55 = .ok (.invokevirtual 168, 3) := by decide +kernel
theorem dX7_top_58 : decode cX7_top 58 = .ok (.istore 5, 2) := by decide +kernel
theorem dX7_top_60 : decode cX7_top 60 = .ok (.iload 5, 2) := by decide +kernel
theorem dX7_top_62 : decode cX7_top 62 = .ok (.iload_n 3, 1) := by decide +kernel
theorem dX7_top_63 : decode cX7_top 63 = .ok (.if_icmp .le 9, 3) := by decide +kernel
theorem dX7_top_66 : decode cX7_top 66 = .ok (.iload 5, 2) := by decide +kernel
theorem dX7_top_68 : decode cX7_top 68 = .ok (.istore_n 3, 1) := by decide +kernel
theorem dX7_top_69 : decode cX7_top 69 = .ok (.iload 4, 2) := by decide +kernel
theorem dX7_top_71 : decode cX7_top 71 = .ok (.istore_n 2, 1) := by decide +kernel
theorem dX7_top_72 : decode cX7_top 72 = .ok (.iinc 4 1, 3) := by decide +kernel
theorem dX7_top_75 : decode cX7_top 75 = .ok (.goto (-57), 3) := by decide +kernel
theorem dX7_top_78 : decode cX7_top 78 = .ok (.iload_n 1, 1) := by decide +kernel
theorem dX7_top_79 : decode cX7_top 79 = .ok (.ifCond .ne 7, 3) := by decide +kernel
theorem dX7_top_82 : decode cX7_top 82 = .ok (.iload_n 2, 1) := by decide +kernel
theorem dX7_top_83 : decode cX7_top 83 = .ok (.goto 4, 3) := by decide +kernel
theorem dX7_top_86 : decode cX7_top 86 = .ok (.iload_n 3, 1) := by decide +kernel
theorem dX7_top_87 : decode cX7_top 87 = .ok (.ireturn, 1) := by decide +kernel
theorem dX7_seen_0 : decode cX7_seen 0 = .ok (.iload_n 1, 1) := by decide +kernel
theorem dX7_seen_1 : decode cX7_seen 1 = .ok (.iload_n 2, 1) := by decide +kernel
theorem dX7_seen_2 : decode cX7_seen 2 = .ok (.iload_n 3, 1) := by decide +kernel
theorem dX7_seen_3 : decode cX7_seen 3 = .ok (.invokestatic 184, 3) := by decide +kernel
theorem dX7_seen_6 : decode cX7_seen 6 = .ok (.ifCond .ne 6, 3) := by decide +kernel
theorem dX7_seen_9 : decode cX7_seen 9 = .ok (.bipush (-2), 2) := by decide +kernel
theorem dX7_seen_11 : decode cX7_seen 11 = .ok (.ireturn, 1) := by decide +kernel
theorem dX7_seen_12 : decode cX7_seen 12 = .ok (.aload_n 0, 1) := by decide +kernel
theorem dX7_seen_13 : decode cX7_seen 13 = .ok (.getfield 47, 3) := by decide +kernel
theorem dX7_seen_16 : decode cX7_seen 16 = .ok (.invokevirtual 187, 3) := by decide +kernel
theorem dX7_seen_19 : decode cX7_seen 19 = .ok (.ifCond .eq 6, 3) := by decide +kernel
theorem dX7_seen_22 : decode cX7_seen 22 = .ok (.bipush (-4), 2) := by decide +kernel
theorem dX7_seen_24 : decode cX7_seen 24 = .ok (.ireturn, 1) := by decide +kernel
theorem dX7_seen_25 : decode cX7_seen 25 = .ok (.aload_n 0, 1) := by decide +kernel
theorem dX7_seen_26 : decode cX7_seen 26 = .ok (.getfield 47, 3) := by decide +kernel
theorem dX7_seen_29 : decode cX7_seen 29 = .ok (.iload_n 1, 1) := by decide +kernel
theorem dX7_seen_30 : decode cX7_seen 30 = .ok (.iload_n 2, 1) := by decide +kernel
theorem dX7_seen_31 : decode cX7_seen 31 = .ok (.iload_n 3, 1) := by decide +kernel
theorem dX7_seen_32 : decode cX7_seen 32 = .ok (.invokevirtual 188, 3) := by decide +kernel
theorem dX7_seen_35 : decode cX7_seen 35 = .ok (.aload_n 0, 1) := by decide +kernel
theorem dX7_seen_36 : decode cX7_seen 36 = .ok (.getfield 47, 3) := by decide +kernel
theorem dX7_seen_39 : decode cX7_seen 39 = .ok (.getfield 191, 3) := by decide +kernel
theorem dX7_seen_42 : decode cX7_seen 42 = .ok (.ireturn, 1) := by decide +kernel
theorem dX7_forget_0 : decode cX7_forget 0 = .ok (.aload_n 0, 1) := by decide +kernel
theorem dX7_forget_1 : decode cX7_forget 1 = .ok (.getfield 47, 3) := by decide +kernel
theorem dX7_forget_4 : decode cX7_forget 4 = .ok (.getfield 191, 3) := by decide +kernel
theorem dX7_forget_7 : decode cX7_forget 7 = .ok (.istore_n 1, 1) := by decide +kernel
theorem dX7_forget_8 : decode cX7_forget 8 = .ok (.aload_n 0, 1) := by decide +kernel
theorem dX7_forget_9 : decode cX7_forget 9 = .ok (.getfield 47, 3) := by decide +kernel
theorem dX7_forget_12 : decode cX7_forget 12 = .ok (.iconst 0, 1) := by decide +kernel
theorem dX7_forget_13 : decode cX7_forget 13 = .ok (.putfield 191, 3) := by decide +kernel
theorem dX7_forget_16 : decode cX7_forget 16 = .ok (.iload_n 1, 1) := by decide +kernel
theorem dX7_forget_17 : decode cX7_forget 17 = .ok (.ireturn, 1) := by decide +kernel
theorem dX7_read_0 : decode cX7_read 0 = .ok (.iload_n 1, 1) := by decide +kernel
theorem dX7_read_1 : decode cX7_read 1 = .ok (.iconst 4, 1) := by decide +kernel
theorem dX7_read_2 : decode cX7_read 2 = .ok (.invokestatic 70, 3) := by decide +kernel
theorem dX7_read_5 : decode cX7_read 5 = .ok (.ifCond .eq 6, 3) := by decide +kernel
theorem dX7_read_8 : decode cX7_read 8 = .ok (.bipush (-2), 2) := by decide +kernel
theorem dX7_read_10 : decode cX7_read 10 = .ok (.ireturn, 1) := by decide +kernel
theorem dX7_read_11 : decode cX7_read 11 = .ok (.aload_n 0, 1) := by decide +kernel
theorem dX7_read_12 : decode cX7_read 12 = .ok (.getfield 54, 3) := by decide +kernel
theorem dX7_read_15 : decode cX7_read 15 = .ok (.iload_n 1, 1) := by decide +kernel
theorem dX7_read_16 : decode cX7_read 16 = .ok (.aaload, 1) := by decide +kernel
theorem dX7_read_17 : decode cX7_read 17 = .ok (.invokevirtual 192, 3) := by decide +kernel
theorem dX7_read_20 : decode cX7_read 20 = .ok (.ifCond .eq 9, 3) := by decide +kernel
theorem dX7_read_23 : decode cX7_read 23 = .ok (.aload_n 0, 1) := by decide +kernel
theorem dX7_read_24 : decode cX7_read 24 = .ok (.iconst 1, 1) := by decide +kernel
theorem dX7_read_25 : decode cX7_read 25 = .ok (.invokevirtual 195, 3) := by decide +kernel
theorem dX7_read_28 : decode cX7_read 28 = .ok (.ireturn, 1) := by decide +kernel
theorem dX7_read_29 : decode cX7_read 29 = .ok (.aload_n 0, 1) := by decide +kernel
theorem dX7_read_30 : decode cX7_read 30 = .ok (.getfield 54, 3) := by decide +kernel
theorem dX7_read_33 : decode cX7_read 33 = .ok (.iload_n 1, 1) := by decide +kernel
theorem dX7_read_34 : decode cX7_read 34 = .ok (.aaload, 1) := by decide +kernel
theorem dX7_read_35 : decode cX7_read 35 = .ok (.getfield 198, 3) := by decide +kernel
theorem dX7_read_38 : decode cX7_read 38 = .ok (.astore_n 2, 1) := by decide +kernel
theorem dX7_read_39 : decode cX7_read 39 = .ok (.iconst 0, 1) := by decide +kernel
theorem dX7_read_40 : decode cX7_read 40 = .ok (.istore_n 3, 1) := by decide +kernel
theorem dX7_read_41 : decode cX7_read 41 = .ok (.iconst 0, 1) := by decide +kernel
theorem dX7_read_42 : decode cX7_read 42 = .ok (.istore 4, 2) := by decide +kernel
theorem dX7_read_44 : decode cX7_read 44 = .ok (.iload 4, 2) := by decide +kernel
theorem dX7_read_46 : decode cX7_read 46 = .ok (.iconst 3, 1) := by decide +kernel
theorem dX7_read_47 : decode cX7_read 47 = .ok (.iadd, 1) := by decide +kernel
theorem dX7_read_48 : decode cX7_read 48 = .ok (.aload_n 0, 1) := by decide +kernel
theorem dX7_read_49 : decode cX7_read 49 = .ok (.getfield 54, 3) := by decide +kernel
theorem dX7_read_52 : decode cX7_read 52 = .ok (.iload_n 1, 1) := by decide +kernel
theorem dX7_read_53 : decode cX7_read 53 = .ok (.aaload, 1) := by decide +kernel
theorem dX7_read_54 : decode cX7_read 54 = .ok (.getfield 201, 3) := by decide +kernel
theorem dX7_read_57 : decode cX7_read 57 = .ok (.if_icmp .gt 70, 3) := by decide +kernel
theorem dX7_read_60 : decode cX7_read 60 = .ok (.aload_n 0, 1) := by decide +kernel
theorem dX7_read_61 : decode cX7_read 61 = .ok (.getfield 47, 3) := by decide +kernel
theorem dX7_read_64 : decode cX7_read 64 = .ok (.invokevirtual 187, 3) := by decide +kernel
theorem dX7_read_67 : decode cX7_read 67 = .ok (.ifCond .ne 60, 3) := by decide +kernel
theorem dX7_read_70 : decode cX7_read 70 = .ok (.aload_n 2, 1) := by decide +kernel
theorem dX7_read_71 : decode cX7_read 71 = .ok (.iload 4, 2) := by decide +kernel
theorem dX7_read_73 : decode cX7_read 73 = .ok (.iaload, 1) := by decide +kernel
theorem dX7_read_74 : decode cX7_read 74 = .ok (.aload_n 2, 1) := by decide +kernel
theorem dX7_read_75 : decode cX7_read 75 = .ok (.iload 4, 2) := by decide +kernel
theorem dX7_read_77 : decode cX7_read 77 = .ok (.iconst 1, 1) := by decide +kernel
theorem dX7_read_78 : decode cX7_read 78 = .ok (.iadd, 1) := by decide +kernel
theorem dX7_read_79 : decode cX7_read 79 = .ok (.iaload, 1) := by decide +kernel
theorem dX7_read_80 : decode cX7_read 80 = .ok (.aload_n 2, 1) := by decide +kernel
theorem dX7_read_81 : decode cX7_read 81 = .ok (.iload 4, 2) := by decide +kernel
theorem dX7_read_83 : decode cX7_read 83 = .ok (.iconst 2, 1) := by decide +kernel
theorem dX7_read_84 : decode cX7_read 84 = .ok (.iadd, 1) := by decide +kernel
theorem dX7_read_85 : decode cX7_read 85 = .ok (.iaload, 1) := by decide +kernel
theorem dX7_read_86 : decode cX7_read 86 = .ok (.invokestatic 184, 3) := by decide +kernel
theorem dX7_read_89 : decode cX7_read 89 = .ok (.ifCond .ne 6, 3) := by decide +kernel
theorem dX7_read_92 : decode cX7_read 92 = .ok (.goto 35, 3) := by decide +kernel
theorem dX7_read_95 : decode cX7_read 95 = .ok (.aload_n 0, 1) := by decide +kernel
theorem dX7_read_96 : decode cX7_read 96 = .ok (.getfield 47, 3) := by decide +kernel
theorem dX7_read_99 : decode cX7_read 99 = .ok (.aload_n 2, 1) := by decide +kernel
theorem dX7_read_100 : decode cX7_read 100 = .ok (.iload 4, 2) := by decide +kernel
theorem dX7_read_102 : decode cX7_read 102 = .ok (.iaload, 1) := by decide +kernel
theorem dX7_read_103 : decode cX7_read 103 = .ok (.aload_n 2, 1) := by decide +kernel
theorem dX7_read_104 : decode cX7_read 104 = .ok (.iload 4, 2) := by decide +kernel
theorem dX7_read_106 : decode cX7_read 106 = .ok (.iconst 1, 1) := by decide +kernel
theorem dX7_read_107 : decode cX7_read 107 = .ok (.iadd, 1) := by decide +kernel
theorem dX7_read_108 : decode cX7_read 108 = .ok (.iaload, 1) := by decide +kernel
theorem dX7_read_109 : decode cX7_read 109 = .ok (.aload_n 2, 1) := by decide +kernel
theorem dX7_read_110 : decode cX7_read 110 = .ok (.iload 4, 2) := by decide +kernel
theorem dX7_read_112 : decode cX7_read 112 = .ok (.iconst 2, 1) := by decide +kernel
theorem dX7_read_113 : decode cX7_read 113 = .ok (.iadd, 1) := by decide +kernel
theorem dX7_read_114 : decode cX7_read 114 = .ok (.iaload, 1) := by decide +kernel
theorem dX7_read_115 : decode cX7_read 115 = .ok (.invokevirtual 188, 3) := by decide +kernel
theorem dX7_read_118 : decode cX7_read 118 = .ok (.iinc 3 1, 3) := by decide +kernel
theorem dX7_read_121 : decode cX7_read 121 = .ok (.iinc 4 3, 3) := by decide +kernel
theorem dX7_read_124 : decode cX7_read 124 = .ok (.goto (-80), 3) := by decide +kernel
theorem dX7_read_127 : decode cX7_read 127 = .ok (.iload_n 3, 1) := by decide +kernel
theorem dX7_read_128 : decode cX7_read 128 = .ok (.ireturn, 1) := by decide +kernel
theorem dX7_had_0 : decode cX7_had 0 = .ok (.iload_n 1, 1) := by decide +kernel
theorem dX7_had_1 : decode cX7_had 1 = .ok (.aload_n 0, 1) := by decide +kernel
theorem dX7_had_2 : decode cX7_had 2 = .ok (.getfield 21, 3) := by decide +kernel
theorem dX7_had_5 : decode cX7_had 5 = .ok (.getfield 92, 3) := by decide +kernel
theorem dX7_had_8 : decode cX7_had 8 = .ok (.invokestatic 70, 3) := by decide +kernel
theorem dX7_had_11 : decode cX7_had 11 = .ok (.ifCond .eq 6, 3) := by decide +kernel
theorem dX7_had_14 : decode cX7_had 14 = .ok (.bipush (-2), 2) := by decide +kernel
theorem dX7_had_16 : decode cX7_had 16 = .ok (.ireturn, 1) := by decide +kernel
theorem dX7_had_17 : decode cX7_had 17 = .ok (.iconst 0, 1) := by decide +kernel
theorem dX7_had_18 : decode cX7_had 18 = .ok (.istore_n 2, 1) := by decide +kernel
theorem dX7_had_19 : decode cX7_had 19 = .ok (.iconst 0, 1) := by decide +kernel
theorem dX7_had_20 : decode cX7_had 20 = .ok (.istore_n 3, 1) := by decide +kernel
theorem dX7_had_21 : decode cX7_had 21 = .ok (.iload_n 3, 1) := by decide +kernel
theorem dX7_had_22 : decode cX7_had 22 = .ok (.bipush 8, 2) := by decide +kernel
theorem dX7_had_24 : decode cX7_had 24 = .ok (.if_icmp .ge 60, 3) := by decide +kernel
theorem dX7_had_27 : decode cX7_had 27 = .ok (.aload_n 0, 1) := by decide +kernel
theorem dX7_had_28 : decode cX7_had 28 = .ok (.getfield 34, 3) := by decide +kernel
theorem dX7_had_31 : decode cX7_had 31 = .ok (.invokevirtual 171, 3) := by decide +kernel
theorem dX7_had_34 : decode cX7_had 34 = .ok (.aload_n 0, 1) := by decide +kernel
theorem dX7_had_35 : decode cX7_had 35 = .ok (.getfield 34, 3) := by decide +kernel
theorem dX7_had_38 : decode cX7_had 38 = .ok (.getfield 202, 3) := by decide +kernel
theorem dX7_had_41 : decode cX7_had 41 = .ok (.iload_n 1, 1) := by decide +kernel
theorem dX7_had_42 : decode cX7_had 42 = .ok (.iload_n 3, 1) := by decide +kernel
theorem dX7_had_43 : decode cX7_had 43 = .ok (.iastore, 1) := by decide +kernel
theorem dX7_had_44 : decode cX7_had 44 = .ok (.aload_n 0, 1) := by decide +kernel
theorem dX7_had_45 : decode cX7_had 45 = .ok (.getfield 34, 3) := by decide +kernel
theorem dX7_had_48 : decode cX7_had 48 = .ok (.invokevirtual 181, 3) := by decide +kernel
theorem dX7_had_51 : decode cX7_had 51 = .ok (.aload_n 0, 1) := by decide +kernel
theorem dX7_had_52 : decode cX7_had 52 = .ok (.getfield 47, 3) := by decide +kernel
theorem dX7_had_55 : decode cX7_had 55 = .ok (.aload_n 0, 1) := by decide +kernel
theorem dX7_had_56 : decode cX7_had 56 = .ok (.getfield 34, 3) := by decide +kernel
theorem dX7_had_59 : decode cX7_had 59 = .ok (.aload_n 0, 1) := by decide +kernel
theorem dX7_had_60 : decode cX7_had 60 = .ok (.getfield 21, 3) := by decide +kernel
theorem dX7_had_63 : decode cX7_had 63 = .ok (.getfield 92, 3) := by decide +kernel
theorem dX7_had_66 : decode cX7_had 66 = .ok (.invokevirtual 205, 3) := by decide +kernel
theorem dX7_had_69 : decode cX7_had 69 = .ok (.ifCond .eq 9, 3) := by decide +kernel
theorem dX7_had_72 : decode cX7_had 72 = .ok (.iload_n 2, 1) := by decide +kernel
theorem dX7_had_73 : decode cX7_had 73 = .ok (.iconst 1, 1) := by decide +kernel
theorem dX7_had_74 : decode cX7_had 74 = .ok (.iload_n 3, 1) := by decide +kernel
theorem dX7_had_75 : decode cX7_had 75 = .ok (.ishl, 1) := by decide +kernel
theorem dX7_had_76 : decode cX7_had 76 = .ok (.ior, 1) := by decide +kernel
theorem dX7_had_77 : decode cX7_had 77 = .ok (.istore_n 2, 1) := by decide +kernel
theorem dX7_had_78 : decode cX7_had 78 = .ok (.iinc 3 1, 3) := by decide +kernel
theorem dX7_had_81 : decode cX7_had 81 = .ok (.goto (-60), 3) := by decide +kernel
theorem dX7_had_84 : decode cX7_had 84 = .ok (.iload_n 2, 1) := by decide +kernel
theorem dX7_had_85 : decode cX7_had 85 = .ok (.ireturn, 1) := by decide +kernel
theorem dX7_was_0 : decode cX7_was 0 = .ok (.iconst 0, 1) := by decide +kernel
theorem dX7_was_1 : decode cX7_was 1 = .ok (.istore_n 1, 1) := by decide +kernel
theorem dX7_was_2 : decode cX7_was 2 = .ok (.iconst 0, 1) := by decide +kernel
theorem dX7_was_3 : decode cX7_was 3 = .ok (.istore_n 2, 1) := by decide +kernel
theorem dX7_was_4 : decode cX7_was 4 = .ok (.iload_n 2, 1) := by decide +kernel
theorem dX7_was_5 : decode cX7_was 5 = .ok (.bipush 9, 2) := by decide +kernel
theorem dX7_was_7 : decode cX7_was 7 = .ok (.if_icmp .gt 41, 3) := by decide +kernel
theorem dX7_was_10 : decode cX7_was 10 = .ok (.aload_n 0, 1) := by decide +kernel
theorem dX7_was_11 : decode cX7_was 11 = .ok (.iload_n 2, 1) := by decide +kernel
theorem dX7_was_12 : decode cX7_was 12 = .ok (.invokevirtual 165, 3) := by decide +kernel
theorem dX7_was_15 : decode cX7_was 15 = .ok (.aload_n 0, 1) := by decide +kernel
theorem dX7_was_16 : decode cX7_was 16 = .ok (.getfield 47, 3) := by decide +kernel
theorem dX7_was_19 : decode cX7_was 19 = .ok (.aload_n 0, 1) := by decide +kernel
theorem dX7_was_20 : decode cX7_was 20 = .ok (.getfield 34, 3) := by decide +kernel
theorem dX7_was_23 : decode cX7_was 23 = .ok (.aload_n 0, 1) := by decide +kernel
theorem dX7_was_24 : decode cX7_was 24 = .ok (.getfield 21, 3) := by decide +kernel
theorem dX7_was_27 : decode cX7_was 27 = .ok (.getfield 92, 3) := by decide +kernel
theorem dX7_was_30 : decode cX7_was 30 = .ok (.invokevirtual 205, 3) := by decide +kernel
theorem dX7_was_33 : decode cX7_was 33 = .ok (.ifCond .eq 9, 3) := by decide +kernel
theorem dX7_was_36 : decode cX7_was 36 = .ok (.iload_n 1, 1) := by decide +kernel
theorem dX7_was_37 : decode cX7_was 37 = .ok (.iconst 1, 1) := by decide +kernel
theorem dX7_was_38 : decode cX7_was 38 = .ok (.iload_n 2, 1) := by decide +kernel
theorem dX7_was_39 : decode cX7_was 39 = .ok (.ishl, 1) := by decide +kernel
theorem dX7_was_40 : decode cX7_was 40 = .ok (.ior, 1) := by decide +kernel
theorem dX7_was_41 : decode cX7_was 41 = .ok (.istore_n 1, 1) := by decide +kernel
theorem dX7_was_42 : decode cX7_was 42 = .ok (.iinc 2 1, 3) := by decide +kernel
theorem dX7_was_45 : decode cX7_was 45 = .ok (.goto (-41), 3) := by decide +kernel
theorem dX7_was_48 : decode cX7_was 48 = .ok (.iload_n 1, 1) := by decide +kernel
theorem dX7_was_49 : decode cX7_was 49 = .ok (.ireturn, 1) := by decide +kernel
theorem dX7_ask_0 : decode cX7_ask 0 = .ok (.iload_n 1, 1) := by decide +kernel
theorem dX7_ask_1 : decode cX7_ask 1 = .ok (.bipush 10, 2) := by decide +kernel
theorem dX7_ask_3 : decode cX7_ask 3 = .ok (.invokestatic 70, 3) := by decide +kernel
theorem dX7_ask_6 : decode cX7_ask 6 = .ok (.ifCond .eq 6, 3) := by decide +kernel
theorem dX7_ask_9 : decode cX7_ask 9 = .ok (.bipush (-2), 2) := by decide +kernel
theorem dX7_ask_11 : decode cX7_ask 11 = .ok (.ireturn, 1) := by decide +kernel
theorem dX7_ask_12 : decode cX7_ask 12 = .ok (.aload_n 0, 1) := by decide +kernel
theorem dX7_ask_13 : decode cX7_ask 13 = .ok (.invokevirtual 209, 3) := by decide +kernel
theorem dX7_ask_16 : decode cX7_ask 16 = .ok (.iconst 0, 1) := by decide +kernel
theorem dX7_ask_17 : decode cX7_ask 17 = .ok (.istore_n 2, 1) := by decide +kernel
theorem dX7_ask_18 : decode cX7_ask 18 = .ok (.iload_n 2, 1) := by decide +kernel
theorem dX7_ask_19 : decode cX7_ask 19 = .ok (.bipush 9, 2) := by decide +kernel
theorem dX7_ask_21 : decode cX7_ask 21 = .ok (.if_icmp .gt 40, 3) := by decide +kernel
theorem dX7_ask_24 : decode cX7_ask 24 = .ok (.aload_n 0, 1) := by decide +kernel
theorem dX7_ask_25 : decode cX7_ask 25 = .ok (.iload_n 2, 1) := by decide +kernel
theorem dX7_ask_26 : decode cX7_ask 26 = .ok (.invokevirtual 165, 3) := by decide +kernel
theorem dX7_ask_29 : decode cX7_ask 29 = .ok (.aload_n 0, 1) := by decide +kernel
theorem dX7_ask_30 : decode cX7_ask 30 = .ok (.getfield 47, 3) := by decide +kernel
theorem dX7_ask_33 : decode cX7_ask 33 = .ok (.aload_n 0, 1) := by decide +kernel
theorem dX7_ask_34 : decode cX7_ask 34 = .ok (.getfield 34, 3) := by decide +kernel
theorem dX7_ask_37 : decode cX7_ask 37 = .ok (.aload_n 0, 1) := by decide +kernel
theorem dX7_ask_38 : decode cX7_ask 38 = .ok (.getfield 21, 3) := by decide +kernel
theorem dX7_ask_41 : decode cX7_ask 41 = .ok (.getfield 92, 3) := by decide +kernel
theorem dX7_ask_44 : decode cX7_ask 44 = .ok (.invokevirtual 205, 3) := by decide +kernel
theorem dX7_ask_47 : decode cX7_ask 47 = .ok (.ifCond .eq 8, 3) := by decide +kernel
theorem dX7_ask_50 : decode cX7_ask 50 = .ok (.aload_n 0, 1) := by decide +kernel
theorem dX7_ask_51 : decode cX7_ask 51 = .ok (.iload_n 1, 1) := by decide +kernel
theorem dX7_ask_52 : decode cX7_ask 52 = .ok (.invokevirtual 212, 3) := by decide +kernel
theorem dX7_ask_55 : decode cX7_ask 55 = .ok (.iinc 2 1, 3) := by decide +kernel
theorem dX7_ask_58 : decode cX7_ask 58 = .ok (.goto (-40), 3) := by decide +kernel
theorem dX7_ask_61 : decode cX7_ask 61 = .ok (.iconst (-1), 1) := by decide +kernel
theorem dX7_ask_62 : decode cX7_ask 62 = .ok (.istore_n 2, 1) := by decide +kernel
theorem dX7_ask_63 : decode cX7_ask 63 = .ok (.iconst 0, 1) := by decide +kernel
theorem dX7_ask_64 : decode cX7_ask 64 = .ok (.istore_n 3, 1) := by decide +kernel
theorem dX7_ask_65 : decode cX7_ask 65 = .ok (.iconst 0, 1) := by decide +kernel
theorem dX7_ask_66 : decode cX7_ask 66 = .ok (.istore 4, 2) := by decide +kernel
theorem dX7_ask_68 : decode cX7_ask 68 = .ok (.iload 4, 2) := by decide +kernel
theorem dX7_ask_70 : decode cX7_ask 70 = .ok (.aload_n 0, 1) := by decide +kernel
theorem dX7_ask_71 : decode cX7_ask 71 = .ok (.getfield 21, 3) := by decide +kernel
theorem dX7_ask_74 : decode cX7_ask 74 = .ok (.getfield 92, 3) := by decide +kernel
theorem dX7_ask_77 : decode cX7_ask 77 = .ok (.if_icmp .ge 38, 3) := by decide +kernel
theorem dX7_ask_80 : decode cX7_ask 80 = .ok (.aload_n 0, 1) := by decide +kernel
theorem dX7_ask_81 : decode cX7_ask 81 = .ok (.getfield 60, 3) := by decide +kernel
theorem dX7_ask_84 : decode cX7_ask 84 = .ok (.iload 4, 2) := by decide +kernel
theorem dX7_ask_86 : decode cX7_ask 86 = .ok (.aaload, 1) := by decide +kernel
theorem dX7_ask_87 : decode cX7_ask 87 = .ok (.invokestatic 215, 3) := by decide +kernel
theorem dX7_ask_90 : decode cX7_ask 90 = .ok (.istore 5, 2) := by decide +kernel
theorem dX7_ask_92 : decode cX7_ask 92 = .ok (.iload_n 2, 1) := by decide +kernel
theorem dX7_ask_93 : decode cX7_ask 93 = .ok (.iconst (-1), 1) := by decide +kernel
theorem dX7_ask_94 : decode cX7_ask 94 = .ok (.if_icmp .eq 9, 3) := by decide +kernel
theorem dX7_ask_97 : decode cX7_ask 97 = .ok (.iload 5, 2) := by decide +kernel
theorem dX7_ask_99 : decode cX7_ask 99 = .ok (.iload_n 3, 1) := by decide +kernel
theorem dX7_ask_100 : decode cX7_ask 100 = .ok (.if_icmp .ge 9, 3) := by decide +kernel
theorem dX7_ask_103 : decode cX7_ask 103 = .ok (.iload 4, 2) := by decide +kernel
theorem dX7_ask_105 : decode cX7_ask 105 = .ok (.istore_n 2, 1) := by decide +kernel
theorem dX7_ask_106 : decode cX7_ask 106 = .ok (.iload 5, 2) := by decide +kernel
theorem dX7_ask_108 : decode cX7_ask 108 = .ok (.istore_n 3, 1) := by decide +kernel
theorem dX7_ask_109 : decode cX7_ask 109 = .ok (.iinc 4 1, 3) := by decide +kernel
theorem dX7_ask_112 : decode cX7_ask 112 = .ok (.goto (-44), 3) := by decide +kernel
theorem dX7_ask_115 : decode cX7_ask 115 = .ok (.iload_n 2, 1) := by decide +kernel
theorem dX7_ask_116 : decode cX7_ask 116 = .ok (.ireturn, 1) := by decide +kernel
theorem dX7_maybe_0 : decode cX7_maybe 0 = .ok (.iload_n 1, 1) := by decide +kernel
theorem dX7_maybe_1 : decode cX7_maybe 1 = .ok (.bipush 17, 2) := by decide +kernel
theorem dX7_maybe_3 : decode cX7_maybe 3 = .ok (.invokestatic 70, 3) := by decide +kernel
theorem dX7_maybe_6 : decode cX7_maybe 6 = .ok (.ifCond .ne 35, 3) := by decide +kernel
theorem dX7_maybe_9 : decode cX7_maybe 9 = .ok (.iload_n 2, 1) := by decide +kernel
theorem dX7_maybe_10 : decode cX7_maybe 10 = .ok (.bipush 10, 2) := by decide +kernel
theorem dX7_maybe_12 : decode cX7_maybe 12 = .ok (.invokestatic 70, 3) := by decide +kernel
theorem dX7_maybe_15 : decode cX7_maybe 15 = .ok (.ifCond .ne 26, 3) := by decide +kernel
theorem dX7_maybe_18 : decode cX7_maybe 18 = .ok (.iload_n 3, 1) := by decide +kernel
theorem dX7_maybe_19 : decode cX7_maybe 19 = .ok (.aload_n 0, 1) := by decide +kernel
theorem dX7_maybe_20 : decode cX7_maybe 20 = .ok (.getfield 21, 3) := by decide +kernel
theorem dX7_maybe_23 : decode cX7_maybe 23 = .ok (.getfield 92, 3) := by decide +kernel
theorem dX7_maybe_26 : decode cX7_maybe 26 = .ok (.invokestatic 70, 3) := by decide +kernel
theorem dX7_maybe_29 : decode cX7_maybe 29 = .ok (.ifCond .ne 12, 3) := by decide +kernel
theorem dX7_maybe_32 : decode cX7_maybe 32 = .ok (.iload 4, 2) := by decide +kernel
theorem dX7_maybe_34 : decode cX7_maybe 34 = .ok (.iconst 2, 1) := by decide +kernel
theorem dX7_maybe_35 : decode cX7_maybe 35 = .ok (.invokestatic 70, 3) := by decide +kernel
theorem dX7_maybe_38 : decode cX7_maybe 38 = .ok (.ifCond .eq 7, 3) := by decide +kernel
theorem dX7_maybe_41 : decode cX7_maybe 41 = .ok (.ldc2_w 219, 3) := by decide +kernel
theorem dX7_maybe_44 : decode cX7_maybe 44 = .ok (.lreturn, 1) := by decide +kernel
theorem dX7_maybe_45 : decode cX7_maybe 45 = .ok (.aload_n 0, 1) := by decide +kernel
theorem dX7_maybe_46 : decode cX7_maybe 46 = .ok (.getfield 63, 3) := by decide +kernel
theorem dX7_maybe_49 : decode cX7_maybe 49 = .ok (.iconst 0, 1) := by decide +kernel
theorem dX7_maybe_50 : decode cX7_maybe 50 = .ok (.invokestatic 221, 3) := by decide +kernel
theorem dX7_maybe_53 : decode cX7_maybe 53 = .ok (.iconst 0, 1) := by decide +kernel
theorem dX7_maybe_54 : decode cX7_maybe 54 = .ok (.istore 5, 2) := by decide +kernel
theorem dX7_maybe_56 : decode cX7_maybe 56 = .ok (.iload 5, 2) := by decide +kernel
theorem dX7_maybe_58 : decode cX7_maybe 58 = .ok (.sipush 1024, 3) := by decide +kernel
theorem dX7_maybe_61 : decode cX7_maybe 61 = .ok (.if_icmp .ge 60, 3) := by decide +kernel
theorem dX7_maybe_64 : decode cX7_maybe 64 = .ok (.iload 5, 2) := by decide +kernel
theorem dX7_maybe_66 : decode cX7_maybe 66 = .ok (.aload_n 0, 1) := by decide +kernel
theorem dX7_maybe_67 : decode cX7_maybe 67 = .ok (.getfield 21, 3) := by decide +kernel
theorem dX7_maybe_70 : decode cX7_maybe 70 = .ok (.getfield 227, 3) := by decide +kernel
theorem dX7_maybe_73 : decode cX7_maybe 73 = .ok (.iconst (-1), 1) := by decide +kernel
theorem dX7_maybe_74 : decode cX7_maybe 74 = .ok (.ixor, 1) := by decide +kernel
theorem dX7_maybe_75 : decode cX7_maybe 75 = .ok (.iand, 1) := by decide +kernel
theorem dX7_maybe_76 : decode cX7_maybe 76 = .ok (.ifCond .ne 39, 3) := by decide +kernel
theorem dX7_maybe_79 : decode cX7_maybe 79 = .ok (.aload_n 0, 1) := by decide +kernel
theorem dX7_maybe_80 : decode cX7_maybe 80 = .ok (.getfield 40, 3) := by decide +kernel
theorem dX7_maybe_83 : decode cX7_maybe 83 = .ok (.iload 5, 2) := by decide +kernel
theorem dX7_maybe_85 : decode cX7_maybe 85 = .ok (.iload_n 2, 1) := by decide +kernel
theorem dX7_maybe_86 : decode cX7_maybe 86 = .ok (.aload_n 0, 1) := by decide +kernel
theorem dX7_maybe_87 : decode cX7_maybe 87 = .ok (.getfield 34, 3) := by decide +kernel
theorem dX7_maybe_90 : decode cX7_maybe 90 = .ok (.invokevirtual 161, 3) := by decide +kernel
theorem dX7_maybe_93 : decode cX7_maybe 93 = .ok (.iload_n 3, 1) := by decide +kernel
theorem dX7_maybe_94 : decode cX7_maybe 94 = .ok (.ishr, 1) := by decide +kernel
theorem dX7_maybe_95 : decode cX7_maybe 95 = .ok (.iconst 1, 1) := by decide +kernel
theorem dX7_maybe_96 : decode cX7_maybe 96 = .ok (.iand, 1) := by decide +kernel
theorem dX7_maybe_97 : decode cX7_maybe 97 = .ok (.iconst 1, 1) := by decide +kernel
theorem dX7_maybe_98 : decode cX7_maybe 98 = .ok (.if_icmp .ne 17, 3) := by decide +kernel
theorem dX7_maybe_101 : decode cX7_maybe 101 = .ok (.aload_n 0, 1) := by decide +kernel
theorem dX7_maybe_102 : decode cX7_maybe 102 = .ok (.getfield 63, 3) := by decide +kernel
theorem dX7_maybe_105 : decode cX7_maybe 105 = .ok (.iload 5, 2) := by decide +kernel
theorem dX7_maybe_107 : decode cX7_maybe 107 = .ok (.invokestatic 156, 3) := by decide +kernel
theorem dX7_maybe_110 : decode cX7_maybe 110 = .ok (.dup2, 1) := by decide +kernel
theorem dX7_maybe_111 : decode cX7_maybe 111 = .ok (.iaload, 1) := by decide +kernel
theorem dX7_maybe_112 : decode cX7_maybe 112 = .ok (.iconst 1, 1) := by decide +kernel
theorem dX7_maybe_113 : decode cX7_maybe 113 = .ok (.iadd, 1) := by decide +kernel
theorem dX7_maybe_114 : decode cX7_maybe 114 = .ok (.iastore, 1) := by decide +kernel
theorem dX7_maybe_115 : decode cX7_maybe 115 = .ok (.iinc 5 1, 3) := by decide +kernel
theorem dX7_maybe_118 : decode cX7_maybe 118 = .ok (.goto (-62), 3) := by decide +kernel
theorem dX7_maybe_121 : decode cX7_maybe 121 = .ok (.aload_n 0, 1) := by decide +kernel
theorem dX7_maybe_122 : decode cX7_maybe 122 = .ok (.getfield 21, 3) := by decide +kernel
theorem dX7_maybe_125 : decode cX7_maybe 125 = .ok (.getfield 227, 3) := by decide +kernel
theorem dX7_maybe_128 : decode cX7_maybe 128 = .ok (.invokestatic 156, 3) := by decide +kernel
theorem dX7_maybe_131 : decode cX7_maybe 131 = .ok (.istore 5, 2) := by decide +kernel
theorem dX7_maybe_133 : decode cX7_maybe 133 = .ok (.aload_n 0, 1) := by decide +kernel
theorem dX7_maybe_134 : decode cX7_maybe 134 = .ok (.iload_n 1, 1) := by decide +kernel
theorem dX7_maybe_135 : decode cX7_maybe 135 = .ok (.iload 5, 2) := by decide +kernel
theorem dX7_maybe_137 : decode cX7_maybe 137 = .ok (.invokevirtual 230, 3) := by decide +kernel
theorem dX7_maybe_140 : decode cX7_maybe 140 = .ok (.lstore 6, 2) := by decide +kernel
theorem dX7_maybe_142 : decode cX7_maybe 142 = .ok (.lconst 1, 1) := by decide +kernel
theorem dX7_maybe_143 : decode cX7_maybe 143 = .ok (.iconst 4, 1) := by decide +kernel
theorem dX7_maybe_144 : decode cX7_maybe 144 = .ok (.iload 5, 2) := by decide +kernel
theorem dX7_maybe_146 : decode cX7_maybe 146 = .ok (.imul, 1) := by decide +kernel
theorem dX7_maybe_147 : decode cX7_maybe 147 = .ok (.lshl, 1) := by decide +kernel
theorem dX7_maybe_148 : decode cX7_maybe 148 = .ok (.lstore 8, 2) := by decide +kernel
theorem dX7_maybe_150 : decode cX7_maybe 150 = .ok (.iconst 0, 1) := by decide +kernel
theorem dX7_maybe_151 : decode cX7_maybe 151 = .ok (.istore 10, 2) := by decide +kernel
theorem dX7_maybe_153 : decode cX7_maybe 153 = .ok (.iload 10, 2) := by decide +kernel
theorem dX7_maybe_155 : decode cX7_maybe 155 = .ok (.iconst 4, 1) := by decide +kernel
theorem dX7_maybe_156 : decode cX7_maybe 156 = .ok (.iload 5, 2) := by decide +kernel
theorem dX7_maybe_158 : decode cX7_maybe 158 = .ok (.imul, 1) := by decide +kernel
theorem dX7_maybe_159 : decode cX7_maybe 159 = .ok (.if_icmp .ge 36, 3) := by decide +kernel
theorem dX7_maybe_162 : decode cX7_maybe 162 = .ok (.lload 6, 2) := by decide +kernel
theorem dX7_maybe_164 : decode cX7_maybe 164 = .ok (.ldc2_w 234, 3) := by decide +kernel
theorem dX7_maybe_167 : decode cX7_maybe 167 = .ok (.lrem, 1) := by decide +kernel
theorem dX7_maybe_168 : decode cX7_maybe 168 = .ok (.lconst 0, 1) := by decide +kernel
theorem dX7_maybe_169 : decode cX7_maybe 169 = .ok (.lcmp, 1) := by decide +kernel
theorem dX7_maybe_170 : decode cX7_maybe 170 = .ok (.ifCond .ne 25, 3) := by decide +kernel
theorem dX7_maybe_173 : decode cX7_maybe 173 = .ok (.lload 6, 2) := by decide +kernel
theorem dX7_maybe_175 : decode cX7_maybe 175 = .ok (.ldc2_w 234, 3) := by decide +kernel
theorem dX7_maybe_178 : decode cX7_maybe 178 = .ok (.ldiv, 1) := by decide +kernel
theorem dX7_maybe_179 : decode cX7_maybe 179 = .ok (.lstore 6, 2) := by decide +kernel
theorem dX7_maybe_181 : decode cX7_maybe 181 = .ok (.lload 8, 2) := by decide +kernel
theorem dX7_maybe_183 : decode cX7_maybe 183 = .ok (.ldc2_w 234, 3) := by decide +kernel
theorem dX7_maybe_186 : decode cX7_maybe 186 = .ok (.ldiv, 1) := by decide +kernel
theorem dX7_maybe_187 : decode cX7_maybe 187 = .ok (.lstore 8, 2) := by decide +kernel
theorem dX7_maybe_189 : decode cX7_maybe 189 = .ok (.iinc 10 1, 3) := by decide +kernel
theorem dX7_maybe_192 : decode cX7_maybe 192 = .ok (.goto (-39), 3) := by decide +kernel
theorem dX7_maybe_195 : decode cX7_maybe 195 = .ok (.iload 4, 2) := by decide +kernel
theorem dX7_maybe_197 : decode cX7_maybe 197 = .ok (.ifCond .ne 8, 3) := by decide +kernel
theorem dX7_maybe_200 : decode cX7_maybe 200 = .ok (.lload 6, 2) := by decide +kernel
theorem dX7_maybe_202 : decode cX7_maybe 202 = .ok (.goto 5, 3) := by decide +kernel
theorem dX7_maybe_205 : decode cX7_maybe 205 = .ok (.lload 8, 2) := by decide +kernel
theorem dX7_maybe_207 : decode cX7_maybe 207 = .ok (.lreturn, 1) := by decide +kernel
theorem dX7_depot_0 : decode cX7_depot 0 = .ok (.iload_n 2, 1) := by decide +kernel
theorem dX7_depot_1 : decode cX7_depot 1 = .ok (.bipush 17, 2) := by decide +kernel
theorem dX7_depot_3 : decode cX7_depot 3 = .ok (.invokestatic 70, 3) := by decide +kernel
theorem dX7_depot_6 : decode cX7_depot 6 = .ok (.ifCond .ne 11, 3) := by decide +kernel
theorem dX7_depot_9 : decode cX7_depot 9 = .ok (.iload_n 3, 1) := by decide +kernel
theorem dX7_depot_10 : decode cX7_depot 10 = .ok (.iconst 2, 1) := by decide +kernel
theorem dX7_depot_11 : decode cX7_depot 11 = .ok (.invokestatic 70, 3) := by decide +kernel
theorem dX7_depot_14 : decode cX7_depot 14 = .ok (.ifCond .eq 6, 3) := by decide +kernel
theorem dX7_depot_17 : decode cX7_depot 17 = .ok (.bipush (-2), 2) := by decide +kernel
theorem dX7_depot_19 : decode cX7_depot 19 = .ok (.ireturn, 1) := by decide +kernel
theorem dX7_depot_20 : decode cX7_depot 20 = .ok (.aload_n 0, 1) := by decide +kernel
theorem dX7_depot_21 : decode cX7_depot 21 = .ok (.getfield 34, 3) := by decide +kernel
theorem dX7_depot_24 : decode cX7_depot 24 = .ok (.invokevirtual 171, 3) := by decide +kernel
theorem dX7_depot_27 : decode cX7_depot 27 = .ok (.aload_n 0, 1) := by decide +kernel
theorem dX7_depot_28 : decode cX7_depot 28 = .ok (.getfield 34, 3) := by decide +kernel
theorem dX7_depot_31 : decode cX7_depot 31 = .ok (.getfield 174, 3) := by decide +kernel
theorem dX7_depot_34 : decode cX7_depot 34 = .ok (.iconst 0, 1) := by decide +kernel
theorem dX7_depot_35 : decode cX7_depot 35 = .ok (.putfield 131, 3) := by decide +kernel
theorem dX7_depot_38 : decode cX7_depot 38 = .ok (.iload_n 1, 1) := by decide +kernel
theorem dX7_depot_39 : decode cX7_depot 39 = .ok (.istore 4, 2) := by decide +kernel
theorem dX7_depot_41 : decode cX7_depot 41 = .ok (.iconst 0, 1) := by decide +kernel
theorem dX7_depot_42 : decode cX7_depot 42 = .ok (.istore 5, 2) := by decide +kernel
theorem dX7_depot_44 : decode cX7_depot 44 = .ok (.iload 5, 2) := by decide +kernel
theorem dX7_depot_46 : decode cX7_depot 46 = .ok (.iload_n 2, 1) := by decide +kernel
theorem dX7_depot_47 : decode cX7_depot 47 = .ok (.if_icmp .ge 38, 3) := by decide +kernel
theorem dX7_depot_50 : decode cX7_depot 50 = .ok (.ldc 236, 2) := by decide +kernel
theorem dX7_depot_52 : decode cX7_depot 52 = .ok (.iload 4, 2) := by decide +kernel
theorem dX7_depot_54 : decode cX7_depot 54 = .ok (.imul, 1) := by decide +kernel
theorem dX7_depot_55 : decode cX7_depot 55 = .ok (.sipush 12345, 3) := by decide +kernel
theorem dX7_depot_58 : decode cX7_depot 58 = .ok (.iadd, 1) := by decide +kernel
theorem dX7_depot_59 : decode cX7_depot 59 = .ok (.istore 4, 2) := by decide +kernel
theorem dX7_depot_61 : decode cX7_depot 61 = .ok (.aload_n 0, 1) := by decide +kernel
theorem dX7_depot_62 : decode cX7_depot 62 = .ok (.getfield 34, 3) := by decide +kernel
theorem dX7_depot_65 : decode cX7_depot 65 = .ok (.getfield 174, 3) := by decide +kernel
theorem dX7_depot_68 : decode cX7_depot 68 = .ok (.iload 4, 2) := by decide +kernel
theorem dX7_depot_70 : decode cX7_depot 70 = .ok (.bipush 16, 2) := by decide +kernel
theorem dX7_depot_72 : decode cX7_depot 72 = .ok (.iushr, 1) := by decide +kernel
theorem dX7_depot_73 : decode cX7_depot 73 = .ok (.bipush 8, 2) := by decide +kernel
theorem dX7_depot_75 : decode cX7_depot 75 = .ok (.irem, 1) := by decide +kernel
theorem dX7_depot_76 : decode cX7_depot 76 = .ok (.invokevirtual 237, 3) := by decide +kernel
theorem dX7_depot_79 : decode cX7_depot 79 = .ok (.iinc 5 1, 3) := by decide +kernel
theorem dX7_depot_82 : decode cX7_depot 82 = .ok (.goto (-38), 3) := by decide +kernel
theorem dX7_depot_85 : decode cX7_depot 85 = .ok (.aload_n 0, 1) := by decide +kernel
theorem dX7_depot_86 : decode cX7_depot 86 = .ok (.getfield 34, 3) := by decide +kernel
theorem dX7_depot_89 : decode cX7_depot 89 = .ok (.invokevirtual 181, 3) := by decide +kernel
theorem dX7_depot_92 : decode cX7_depot 92 = .ok (.iload_n 3, 1) := by decide +kernel
theorem dX7_depot_93 : decode cX7_depot 93 = .ok (.ifCond .ne 13, 3) := by decide +kernel
theorem dX7_depot_96 : decode cX7_depot 96 = .ok (.aload_n 0, 1) := by decide +kernel
theorem dX7_depot_97 : decode cX7_depot 97 = .ok (.getfield 34, 3) := by decide +kernel
theorem dX7_depot_100 : decode cX7_depot 100 = .ok (.invokevirtual 168, 3) := by decide +kernel
theorem dX7_depot_103 : decode cX7_depot 103 = .ok (.goto 13, 3) := by decide +kernel
theorem dX7_depot_106 : decode cX7_depot 106 = .ok (.aload_n 0, 1) := by decide +kernel
theorem dX7_depot_107 : decode cX7_depot 107 = .ok (.getfield 34, 3) := by decide +kernel
theorem dX7_depot_110 : decode cX7_depot 110 = .ok (.getfield 174, 3) := by decide +kernel
theorem dX7_depot_113 : decode cX7_depot 113 = .ok (.getfield 131, 3) := by decide +kernel
theorem dX7_depot_116 : decode cX7_depot 116 = .ok (.ireturn, 1) := by decide +kernel
theorem dX7_sheet_0 : decode cX7_sheet 0 = .ok (.iload_n 1, 1) := by decide +kernel
theorem dX7_sheet_1 : decode cX7_sheet 1 = .ok (.iconst 4, 1) := by decide +kernel
theorem dX7_sheet_2 : decode cX7_sheet 2 = .ok (.invokestatic 70, 3) := by decide +kernel
theorem dX7_sheet_5 : decode cX7_sheet 5 = .ok (.ifCond .ne 17, 3) := by decide +kernel
theorem dX7_sheet_8 : decode cX7_sheet 8 = .ok (.iload_n 2, 1) := by decide +kernel
theorem dX7_sheet_9 : decode cX7_sheet 9 = .ok (.iconst 3, 1) := by decide +kernel
theorem dX7_sheet_10 : decode cX7_sheet 10 = .ok (.invokestatic 70, 3) := by decide +kernel
theorem dX7_sheet_13 : decode cX7_sheet 13 = .ok (.ifCond .ne 9, 3) := by decide +kernel
theorem dX7_sheet_16 : decode cX7_sheet 16 = .ok (.iload_n 3, 1) := by decide +kernel
theorem dX7_sheet_17 : decode cX7_sheet 17 = .ok (.bipush 60, 2) := by decide +kernel
theorem dX7_sheet_19 : decode cX7_sheet 19 = .ok (.if_icmp .le 6, 3) := by decide +kernel
theorem dX7_sheet_22 : decode cX7_sheet 22 = .ok (.bipush (-2), 2) := by decide +kernel
theorem dX7_sheet_24 : decode cX7_sheet 24 = .ok (.ireturn, 1) := by decide +kernel
theorem dX7_sheet_25 : decode cX7_sheet 25 = .ok (.iload_n 3, 1) := by decide +kernel
theorem dX7_sheet_26 : decode cX7_sheet 26 = .ok (.ifCond .ge 9, 3) := by decide +kernel
theorem dX7_sheet_29 : decode cX7_sheet 29 = .ok (.aload_n 0, 1) := by decide +kernel
theorem dX7_sheet_30 : decode cX7_sheet 30 = .ok (.iconst 5, 1) := by decide +kernel
theorem dX7_sheet_31 : decode cX7_sheet 31 = .ok (.invokevirtual 195, 3) := by decide +kernel
theorem dX7_sheet_34 : decode cX7_sheet 34 = .ok (.ireturn, 1) := by decide +kernel
theorem dX7_sheet_35 : decode cX7_sheet 35 = .ok (.aload_n 0, 1) := by decide +kernel
theorem dX7_sheet_36 : decode cX7_sheet 36 = .ok (.getfield 54, 3) := by decide +kernel
theorem dX7_sheet_39 : decode cX7_sheet 39 = .ok (.iload_n 1, 1) := by decide +kernel
theorem dX7_sheet_40 : decode cX7_sheet 40 = .ok (.aaload, 1) := by decide +kernel
theorem dX7_sheet_41 : decode cX7_sheet 41 = .ok (.iload_n 2, 1) := by decide +kernel
theorem dX7_sheet_42 : decode cX7_sheet 42 = .ok (.iload_n 3, 1) := by decide +kernel
theorem dX7_sheet_43 : decode cX7_sheet 43 = .ok (.invokevirtual 240, 3) := by decide +kernel
theorem dX7_sheet_46 : decode cX7_sheet 46 = .ok (.iload_n 3, 1) := by decide +kernel
theorem dX7_sheet_47 : decode cX7_sheet 47 = .ok (.ireturn, 1) := by decide +kernel
theorem dX7_lose_0 : decode cX7_lose 0 = .ok (.iload_n 1, 1) := by decide +kernel
theorem dX7_lose_1 : decode cX7_lose 1 = .ok (.iconst 4, 1) := by decide +kernel
theorem dX7_lose_2 : decode cX7_lose 2 = .ok (.invokestatic 70, 3) := by decide +kernel
theorem dX7_lose_5 : decode cX7_lose 5 = .ok (.ifCond .eq 6, 3) := by decide +kernel
theorem dX7_lose_8 : decode cX7_lose 8 = .ok (.bipush (-2), 2) := by decide +kernel
theorem dX7_lose_10 : decode cX7_lose 10 = .ok (.ireturn, 1) := by decide +kernel
theorem dX7_lose_11 : decode cX7_lose 11 = .ok (.aload_n 0, 1) := by decide +kernel
theorem dX7_lose_12 : decode cX7_lose 12 = .ok (.getfield 54, 3) := by decide +kernel
theorem dX7_lose_15 : decode cX7_lose 15 = .ok (.iload_n 1, 1) := by decide +kernel
theorem dX7_lose_16 : decode cX7_lose 16 = .ok (.aaload, 1) := by decide +kernel
theorem dX7_lose_17 : decode cX7_lose 17 = .ok (.invokevirtual 192, 3) := by decide +kernel
theorem dX7_lose_20 : decode cX7_lose 20 = .ok (.ifCond .eq 9, 3) := by decide +kernel
theorem dX7_lose_23 : decode cX7_lose 23 = .ok (.aload_n 0, 1) := by decide +kernel
theorem dX7_lose_24 : decode cX7_lose 24 = .ok (.iconst 1, 1) := by decide +kernel
theorem dX7_lose_25 : decode cX7_lose 25 = .ok (.invokevirtual 195, 3) := by decide +kernel
theorem dX7_lose_28 : decode cX7_lose 28 = .ok (.ireturn, 1) := by decide +kernel
theorem dX7_lose_29 : decode cX7_lose 29 = .ok (.aload_n 0, 1) := by decide +kernel
theorem dX7_lose_30 : decode cX7_lose 30 = .ok (.getfield 54, 3) := by decide +kernel
theorem dX7_lose_33 : decode cX7_lose 33 = .ok (.iload_n 1, 1) := by decide +kernel
theorem dX7_lose_34 : decode cX7_lose 34 = .ok (.aaload, 1) := by decide +kernel
theorem dX7_lose_35 : decode cX7_lose 35 = .ok (.getfield 201, 3) := by decide +kernel
theorem dX7_lose_38 : decode cX7_lose 38 = .ok (.istore_n 2, 1) := by decide +kernel
theorem dX7_lose_39 : decode cX7_lose 39 = .ok (.aload_n 0, 1) := by decide +kernel
theorem dX7_lose_40 : decode cX7_lose 40 = .ok (.getfield 54, 3) := by decide +kernel
theorem dX7_lose_43 : decode cX7_lose 43 = .ok (.iload_n 1, 1) := by decide +kernel
theorem dX7_lose_44 : decode cX7_lose 44 = .ok (.aaload, 1) := by decide +kernel
theorem dX7_lose_45 : decode cX7_lose 45 = .ok (.invokevirtual 244, 3) := by decide +kernel
theorem dX7_lose_48 : decode cX7_lose 48 = .ok (.iload_n 2, 1) := by decide +kernel
theorem dX7_lose_49 : decode cX7_lose 49 = .ok (.ireturn, 1) := by decide +kernel
theorem dX7_lay_0 : decode cX7_lay 0 = .ok (.aload_n 0, 1) := by decide +kernel
theorem dX7_lay_1 : decode cX7_lay 1 = .ok (.iload_n 1, 1) := by decide +kernel
theorem dX7_lay_2 : decode cX7_lay 2 = .ok (.iload_n 2, 1) := by decide +kernel
theorem dX7_lay_3 : decode cX7_lay 3 = .ok (.iload_n 3, 1) := by decide +kernel
theorem dX7_lay_4 : decode cX7_lay 4 = .ok (.invokevirtual 247, 3) := by decide +kernel
theorem dX7_lay_7 : decode cX7_lay 7 = .ok (.istore 5, 2) := by decide +kernel
theorem dX7_lay_9 : decode cX7_lay 9 = .ok (.iload 5, 2) := by decide +kernel
theorem dX7_lay_11 : decode cX7_lay 11 = .ok (.ifCond .eq 6, 3) := by decide +kernel
theorem dX7_lay_14 : decode cX7_lay 14 = .ok (.iload 5, 2) := by decide +kernel
theorem dX7_lay_16 : decode cX7_lay 16 = .ok (.ireturn, 1) := by decide +kernel
theorem dX7_lay_17 : decode cX7_lay 17 = .ok (.aload_n 0, 1) := by decide +kernel
theorem dX7_lay_18 : decode cX7_lay 18 = .ok (.getfield 54, 3) := by decide +kernel
theorem dX7_lay_21 : decode cX7_lay 21 = .ok (.iload_n 1, 1) := by decide +kernel
theorem dX7_lay_22 : decode cX7_lay 22 = .ok (.aaload, 1) := by decide +kernel
theorem dX7_lay_23 : decode cX7_lay 23 = .ok (.iload_n 3, 1) := by decide +kernel
theorem dX7_lay_24 : decode cX7_lay 24 = .ok (.iload 4, 2) := by decide +kernel
theorem dX7_lay_26 : decode cX7_lay 26 = .ok (.invokevirtual 251, 3) := by decide +kernel
theorem dX7_lay_29 : decode cX7_lay 29 = .ok (.iconst 1, 1) := by decide +kernel
theorem dX7_lay_30 : decode cX7_lay 30 = .ok (.ireturn, 1) := by decide +kernel
theorem dX7_get_0 : decode cX7_get 0 = .ok (.aload_n 0, 1) := by decide +kernel
theorem dX7_get_1 : decode cX7_get 1 = .ok (.iload_n 1, 1) := by decide +kernel
theorem dX7_get_2 : decode cX7_get 2 = .ok (.iload_n 2, 1) := by decide +kernel
theorem dX7_get_3 : decode cX7_get 3 = .ok (.iload_n 3, 1) := by decide +kernel
theorem dX7_get_4 : decode cX7_get 4 = .ok (.invokevirtual 247, 3) := by decide +kernel
theorem dX7_get_7 : decode cX7_get 7 = .ok (.ifCond .eq 8, 3) := by decide +kernel
theorem dX7_get_10 : decode cX7_get 10 = .ok (.ldc 254, 2) := by decide +kernel
theorem dX7_get_12 : decode cX7_get 12 = .ok (.goto 14, 3) := by decide +kernel
theorem dX7_get_15 : decode cX7_get 15 = .ok (.aload_n 0, 1) := by decide +kernel
theorem dX7_get_16 : decode cX7_get 16 = .ok (.getfield 54, 3) := by decide +kernel
theorem dX7_get_19 : decode cX7_get 19 = .ok (.iload_n 1, 1) := by decide +kernel
theorem dX7_get_20 : decode cX7_get 20 = .ok (.aaload, 1) := by decide +kernel
theorem dX7_get_21 : decode cX7_get 21 = .ok (.getfield 198, 3) := by decide +kernel
theorem dX7_get_24 : decode cX7_get 24 = .ok (.iload_n 3, 1) := by decide +kernel
theorem dX7_get_25 : decode cX7_get 25 = .ok (.iaload, 1) := by decide +kernel
theorem dX7_get_26 : decode cX7_get 26 = .ok (.ireturn, 1) := by decide +kernel
theorem dX7_copy_0 : decode cX7_copy 0 = .ok (.iload_n 1, 1) := by decide +kernel
theorem dX7_copy_1 : decode cX7_copy 1 = .ok (.iconst 4, 1) := by decide +kernel
theorem dX7_copy_2 : decode cX7_copy 2 = .ok (.invokestatic 70, 3) := by decide +kernel
theorem dX7_copy_5 : decode cX7_copy 5 = .ok (.ifCond .ne 11, 3) := by decide +kernel
theorem dX7_copy_8 : decode cX7_copy 8 = .ok (.iload_n 3, 1) := by decide +kernel
theorem dX7_copy_9 : decode cX7_copy 9 = .ok (.iconst 4, 1) := by decide +kernel
theorem dX7_copy_10 : decode cX7_copy 10 = .ok (.invokestatic 70, 3) := by decide +kernel
theorem dX7_copy_13 : decode cX7_copy 13 = .ok (.ifCond .eq 6, 3) := by decide +kernel
theorem dX7_copy_16 : decode cX7_copy 16 = .ok (.bipush (-2), 2) := by decide +kernel
theorem dX7_copy_18 : decode cX7_copy 18 = .ok (.ireturn, 1) := by decide +kernel
theorem dX7_copy_19 : decode cX7_copy 19 = .ok (.aload_n 0, 1) := by decide +kernel
theorem dX7_copy_20 : decode cX7_copy 20 = .ok (.getfield 54, 3) := by decide +kernel
theorem dX7_copy_23 : decode cX7_copy 23 = .ok (.iload_n 1, 1) := by decide +kernel
theorem dX7_copy_24 : decode cX7_copy 24 = .ok (.aaload, 1) := by decide +kernel
theorem dX7_copy_25 : decode cX7_copy 25 = .ok (.invokevirtual 192, 3) := by decide +kernel
theorem dX7_copy_28 : decode cX7_copy 28 = .ok (.ifCond .ne 15, 3) := by decide +kernel
theorem dX7_copy_31 : decode cX7_copy 31 = .ok (.aload_n 0, 1) := by decide +kernel
theorem dX7_copy_32 : decode cX7_copy 32 = .ok (.getfield 54, 3) := by decide +kernel
theorem dX7_copy_35 : decode cX7_copy 35 = .ok (.iload_n 3, 1) := by decide +kernel
theorem dX7_copy_36 : decode cX7_copy 36 = .ok (.aaload, 1) := by decide +kernel
theorem dX7_copy_37 : decode cX7_copy 37 = .ok (.invokevirtual 192, 3) := by decide +kernel
theorem dX7_copy_40 : decode cX7_copy 40 = .ok (.ifCond .eq 9, 3) := by decide +kernel
theorem dX7_copy_43 : decode cX7_copy 43 = .ok (.aload_n 0, 1) := by decide +kernel
theorem dX7_copy_44 : decode cX7_copy 44 = .ok (.iconst 1, 1) := by decide +kernel
theorem dX7_copy_45 : decode cX7_copy 45 = .ok (.invokevirtual 195, 3) := by decide +kernel
theorem dX7_copy_48 : decode cX7_copy 48 = .ok (.ireturn, 1) := by decide +kernel
theorem dX7_copy_49 : decode cX7_copy 49 = .ok (.aload_n 0, 1) := by decide +kernel
theorem dX7_copy_50 : decode cX7_copy 50 = .ok (.getfield 54, 3) := by decide +kernel
theorem dX7_copy_53 : decode cX7_copy 53 = .ok (.iload_n 1, 1) := by decide +kernel
theorem dX7_copy_54 : decode cX7_copy 54 = .ok (.aaload, 1) := by decide +kernel
theorem dX7_copy_55 : decode cX7_copy 55 = .ok (.getfield 255, 3) := by decide +kernel
theorem dX7_copy_58 : decode cX7_copy 58 = .ok (.aload_n 0, 1) := by decide +kernel
theorem dX7_copy_59 : decode cX7_copy 59 = .ok (.getfield 54, 3) := by decide +kernel
theorem dX7_copy_62 : decode cX7_copy 62 = .ok (.iload_n 3, 1) := by decide +kernel
theorem dX7_copy_63 : decode cX7_copy 63 = .ok (.aaload, 1) := by decide +kernel
theorem dX7_copy_64 : decode cX7_copy 64 = .ok (.getfield 255, 3) := by decide +kernel
theorem dX7_copy_67 : decode cX7_copy 67 = .ok (.if_icmp .eq 9, 3) := by decide +kernel
theorem dX7_copy_70 : decode cX7_copy 70 = .ok (.aload_n 0, 1) := by decide +kernel
theorem dX7_copy_71 : decode cX7_copy 71 = .ok (.iconst 4, 1) := by decide +kernel
theorem dX7_copy_72 : decode cX7_copy 72 = .ok (.invokevirtual 195, 3) := by decide +kernel
theorem dX7_copy_75 : decode cX7_copy 75 = .ok (.ireturn, 1) := by decide +kernel
theorem dX7_copy_76 : decode cX7_copy 76 = .ok (.aload_n 0, 1) := by decide +kernel
theorem dX7_copy_77 : decode cX7_copy 77 = .ok (.getfield 54, 3) := by decide +kernel
theorem dX7_copy_80 : decode cX7_copy 80 = .ok (.iload_n 1, 1) := by decide +kernel
theorem dX7_copy_81 : decode cX7_copy 81 = .ok (.aaload, 1) := by decide +kernel
theorem dX7_copy_82 : decode cX7_copy 82 = .ok (.iload_n 2, 1) := by decide +kernel
theorem dX7_copy_83 : decode cX7_copy 83 = .ok (.iload 5, 2) := by decide +kernel
theorem dX7_copy_85 : decode cX7_copy 85 = .ok (.invokevirtual 258, 3) := by decide +kernel
theorem dX7_copy_88 : decode cX7_copy 88 = .ok (.ifCond .eq 19, 3) := by decide +kernel
theorem dX7_copy_91 : decode cX7_copy 91 = .ok (.aload_n 0, 1) := by decide +kernel
theorem dX7_copy_92 : decode cX7_copy 92 = .ok (.getfield 54, 3) := by decide +kernel
theorem dX7_copy_95 : decode cX7_copy 95 = .ok (.iload_n 3, 1) := by decide +kernel
theorem dX7_copy_96 : decode cX7_copy 96 = .ok (.aaload, 1) := by decide +kernel
theorem dX7_copy_97 : decode cX7_copy 97 = .ok (.iload 4, 2) := by decide +kernel
theorem dX7_copy_99 : decode cX7_copy 99 = .ok (.iload 5, 2) := by decide +kernel
theorem dX7_copy_101 : decode cX7_copy 101 = .ok (.invokevirtual 258, 3) := by decide +kernel
theorem dX7_copy_104 : decode cX7_copy 104 = .ok (.ifCond .ne 9, 3) := by decide +kernel
theorem dX7_copy_107 : decode cX7_copy 107 = .ok (.aload_n 0, 1) := by decide +kernel
theorem dX7_copy_108 : decode cX7_copy 108 = .ok (.iconst 2, 1) := by decide +kernel
theorem dX7_copy_109 : decode cX7_copy 109 = .ok (.invokevirtual 195, 3) := by decide +kernel
theorem dX7_copy_112 : decode cX7_copy 112 = .ok (.ireturn, 1) := by decide +kernel
theorem dX7_copy_113 : decode cX7_copy 113 = .ok (.aload_n 0, 1) := by decide +kernel
theorem dX7_copy_114 : decode cX7_copy 114 = .ok (.getfield 54, 3) := by decide +kernel
theorem dX7_copy_117 : decode cX7_copy 117 = .ok (.iload_n 1, 1) := by decide +kernel
theorem dX7_copy_118 : decode cX7_copy 118 = .ok (.aaload, 1) := by decide +kernel
theorem dX7_copy_119 : decode cX7_copy 119 = .ok (.getfield 198, 3) := by decide +kernel
theorem dX7_copy_122 : decode cX7_copy 122 = .ok (.iload_n 2, 1) := by decide +kernel
theorem dX7_copy_123 : decode cX7_copy 123 = .ok (.aload_n 0, 1) := by decide +kernel
theorem dX7_copy_124 : decode cX7_copy 124 = .ok (.getfield 54, 3) := by decide +kernel
theorem dX7_copy_127 : decode cX7_copy 127 = .ok (.iload_n 3, 1) := by decide +kernel
theorem dX7_copy_128 : decode cX7_copy 128 = .ok (.aaload, 1) := by decide +kernel
theorem dX7_copy_129 : decode cX7_copy 129 = .ok (.getfield 198, 3) := by decide +kernel
theorem dX7_copy_132 : decode cX7_copy 132 = .ok (.iload 4, 2) := by decide +kernel
theorem dX7_copy_134 : decode cX7_copy 134 = .ok (.iload 5, 2) := by decide +kernel
theorem dX7_copy_136 : decode cX7_copy 136 = .ok (.invokestatic 261, 3) := by decide +kernel
theorem dX7_copy_139 : decode cX7_copy 139 = .ok (.iconst 1, 1) := by decide +kernel
theorem dX7_copy_140 : decode cX7_copy 140 = .ok (.ireturn, 1) := by decide +kernel
theorem dX7_write_0 : decode cX7_write 0 = .ok (.iload_n 1, 1) := by decide +kernel
theorem dX7_write_1 : decode cX7_write 1 = .ok (.bipush 10, 2) := by decide +kernel
theorem dX7_write_3 : decode cX7_write 3 = .ok (.invokestatic 70, 3) := by decide +kernel
theorem dX7_write_6 : decode cX7_write 6 = .ok (.ifCond .ne 11, 3) := by decide +kernel
theorem dX7_write_9 : decode cX7_write 9 = .ok (.iload_n 2, 1) := by decide +kernel
theorem dX7_write_10 : decode cX7_write 10 = .ok (.iconst 4, 1) := by decide +kernel
theorem dX7_write_11 : decode cX7_write 11 = .ok (.invokestatic 70, 3) := by decide +kernel
theorem dX7_write_14 : decode cX7_write 14 = .ok (.ifCond .eq 6, 3) := by decide +kernel
theorem dX7_write_17 : decode cX7_write 17 = .ok (.bipush (-2), 2) := by decide +kernel
theorem dX7_write_19 : decode cX7_write 19 = .ok (.ireturn, 1) := by decide +kernel
theorem dX7_write_20 : decode cX7_write 20 = .ok (.aload_n 0, 1) := by decide +kernel
theorem dX7_write_21 : decode cX7_write 21 = .ok (.getfield 54, 3) := by decide +kernel
theorem dX7_write_24 : decode cX7_write 24 = .ok (.iload_n 2, 1) := by decide +kernel
theorem dX7_write_25 : decode cX7_write 25 = .ok (.aaload, 1) := by decide +kernel
theorem dX7_write_26 : decode cX7_write 26 = .ok (.invokevirtual 192, 3) := by decide +kernel
theorem dX7_write_29 : decode cX7_write 29 = .ok (.ifCond .eq 9, 3) := by decide +kernel
theorem dX7_write_32 : decode cX7_write 32 = .ok (.aload_n 0, 1) := by decide +kernel
theorem dX7_write_33 : decode cX7_write 33 = .ok (.iconst 1, 1) := by decide +kernel
theorem dX7_write_34 : decode cX7_write 34 = .ok (.invokevirtual 195, 3) := by decide +kernel
theorem dX7_write_37 : decode cX7_write 37 = .ok (.ireturn, 1) := by decide +kernel
theorem dX7_write_38 : decode cX7_write 38 = .ok (.aload_n 0, 1) := by decide +kernel
theorem dX7_write_39 : decode cX7_write 39 = .ok (.getfield 30, 3) := by decide +kernel
theorem dX7_write_42 : decode cX7_write 42 = .ok (.iload_n 1, 1) := by decide +kernel
theorem dX7_write_43 : decode cX7_write 43 = .ok (.invokevirtual 127, 3) := by decide +kernel
theorem dX7_write_46 : decode cX7_write 46 = .ok (.astore_n 3, 1) := by decide +kernel
theorem dX7_write_47 : decode cX7_write 47 = .ok (.aload_n 0, 1) := by decide +kernel
theorem dX7_write_48 : decode cX7_write 48 = .ok (.getfield 54, 3) := by decide +kernel
theorem dX7_write_51 : decode cX7_write 51 = .ok (.iload_n 2, 1) := by decide +kernel
theorem dX7_write_52 : decode cX7_write 52 = .ok (.aaload, 1) := by decide +kernel
theorem dX7_write_53 : decode cX7_write 53 = .ok (.getfield 201, 3) := by decide +kernel
theorem dX7_write_56 : decode cX7_write 56 = .ok (.aload_n 3, 1) := by decide +kernel
theorem dX7_write_57 : decode cX7_write 57 = .ok (.getfield 131, 3) := by decide +kernel
theorem dX7_write_60 : decode cX7_write 60 = .ok (.invokestatic 267, 3) := by decide +kernel
theorem dX7_write_63 : decode cX7_write 63 = .ok (.istore 4, 2) := by decide +kernel
theorem dX7_write_65 : decode cX7_write 65 = .ok (.iconst 0, 1) := by decide +kernel
theorem dX7_write_66 : decode cX7_write 66 = .ok (.istore 5, 2) := by decide +kernel
theorem dX7_write_68 : decode cX7_write 68 = .ok (.iload 5, 2) := by decide +kernel
theorem dX7_write_70 : decode cX7_write 70 = .ok (.iload 4, 2) := by decide +kernel
theorem dX7_write_72 : decode cX7_write 72 = .ok (.if_icmp .ge 27, 3) := by decide +kernel
theorem dX7_write_75 : decode cX7_write 75 = .ok (.aload_n 0, 1) := by decide +kernel
theorem dX7_write_76 : decode cX7_write 76 = .ok (.getfield 54, 3) := by decide +kernel
theorem dX7_write_79 : decode cX7_write 79 = .ok (.iload_n 2, 1) := by decide +kernel
theorem dX7_write_80 : decode cX7_write 80 = .ok (.aaload, 1) := by decide +kernel
theorem dX7_write_81 : decode cX7_write 81 = .ok (.iload 5, 2) := by decide +kernel
theorem dX7_write_83 : decode cX7_write 83 = .ok (.aload_n 3, 1) := by decide +kernel
theorem dX7_write_84 : decode cX7_write 84 = .ok (.getfield 134, 3) := by decide +kernel
theorem dX7_write_87 : decode cX7_write 87 = .ok (.iload 5, 2) := by decide +kernel
theorem dX7_write_89 : decode cX7_write 89 = .ok (.iaload, 1) := by decide +kernel
theorem dX7_write_90 : decode cX7_write 90 = .ok (.invokevirtual 251, 3) := by decide +kernel
theorem dX7_write_93 : decode cX7_write 93 = .ok (.iinc 5 1, 3) := by decide +kernel
theorem dX7_write_96 : decode cX7_write 96 = .ok (.goto (-28), 3) := by decide +kernel
theorem dX7_write_99 : decode cX7_write 99 = .ok (.iload 4, 2) := by decide +kernel
theorem dX7_write_101 : decode cX7_write 101 = .ok (.ireturn, 1) := by decide +kernel
theorem dX7_count_0 : decode cX7_count 0 = .ok (.iload_n 1, 1) := by decide +kernel
theorem dX7_count_1 : decode cX7_count 1 = .ok (.tableswitch 127 0 8 #[51, 59, 70, 80, 90, 98, 106, 114, 122], 51) := by decide +kernel
theorem dX7_count_52 : decode cX7_count 52 = .ok (.aload_n 0, 1) := by decide +kernel
theorem dX7_count_53 : decode cX7_count 53 = .ok (.getfield 21, 3) := by decide +kernel
theorem dX7_count_56 : decode cX7_count 56 = .ok (.getfield 92, 3) := by decide +kernel
theorem dX7_count_59 : decode cX7_count 59 = .ok (.ireturn, 1) := by decide +kernel
theorem dX7_count_60 : decode cX7_count 60 = .ok (.aload_n 0, 1) := by decide +kernel
theorem dX7_count_61 : decode cX7_count 61 = .ok (.getfield 21, 3) := by decide +kernel
theorem dX7_count_64 : decode cX7_count 64 = .ok (.getfield 272, 3) := by decide +kernel
theorem dX7_count_67 : decode cX7_count 67 = .ok (.getfield 131, 3) := by decide +kernel
theorem dX7_count_70 : decode cX7_count 70 = .ok (.ireturn, 1) := by decide +kernel
theorem dX7_count_71 : decode cX7_count 71 = .ok (.aload_n 0, 1) := by decide +kernel
theorem dX7_count_72 : decode cX7_count 72 = .ok (.getfield 14, 3) := by decide +kernel
theorem dX7_count_75 : decode cX7_count 75 = .ok (.iconst 0, 1) := by decide +kernel
theorem dX7_count_76 : decode cX7_count 76 = .ok (.aaload, 1) := by decide +kernel
theorem dX7_count_77 : decode cX7_count 77 = .ok (.getfield 81, 3) := by decide +kernel
theorem dX7_count_80 : decode cX7_count 80 = .ok (.ireturn, 1) := by decide +kernel
theorem dX7_count_81 : decode cX7_count 81 = .ok (.aload_n 0, 1) := by decide +kernel
theorem dX7_count_82 : decode cX7_count 82 = .ok (.getfield 14, 3) := by decide +kernel
theorem dX7_count_85 : decode cX7_count 85 = .ok (.iconst 1, 1) := by decide +kernel
theorem dX7_count_86 : decode cX7_count 86 = .ok (.aaload, 1) := by decide +kernel
theorem dX7_count_87 : decode cX7_count 87 = .ok (.getfield 81, 3) := by decide +kernel
theorem dX7_count_90 : decode cX7_count 90 = .ok (.ireturn, 1) := by decide +kernel
theorem dX7_count_91 : decode cX7_count 91 = .ok (.aload_n 0, 1) := by decide +kernel
theorem dX7_count_92 : decode cX7_count 92 = .ok (.getfield 30, 3) := by decide +kernel
theorem dX7_count_95 : decode cX7_count 95 = .ok (.getfield 273, 3) := by decide +kernel
theorem dX7_count_98 : decode cX7_count 98 = .ok (.ireturn, 1) := by decide +kernel
theorem dX7_count_99 : decode cX7_count 99 = .ok (.aload_n 0, 1) := by decide +kernel
theorem dX7_count_100 : decode cX7_count 100 = .ok (.getfield 30, 3) := by decide +kernel
theorem dX7_count_103 : decode cX7_count 103 = .ok (.invokevirtual 168, 3) := by decide +kernel
theorem dX7_count_106 : decode cX7_count 106 = .ok (.ireturn, 1) := by decide +kernel
theorem dX7_count_107 : decode cX7_count 107 = .ok (.aload_n 0, 1) := by decide +kernel
theorem dX7_count_108 : decode cX7_count 108 = .ok (.getfield 21, 3) := by decide +kernel
theorem dX7_count_111 : decode cX7_count 111 = .ok (.getfield 227, 3) := by decide +kernel
theorem dX7_count_114 : decode cX7_count 114 = .ok (.ireturn, 1) := by decide +kernel
theorem dX7_count_115 : decode cX7_count 115 = .ok (.aload_n 0, 1) := by decide +kernel
theorem dX7_count_116 : decode cX7_count 116 = .ok (.getfield 47, 3) := by decide +kernel
theorem dX7_count_119 : decode cX7_count 119 = .ok (.getfield 191, 3) := by decide +kernel
theorem dX7_count_122 : decode cX7_count 122 = .ok (.ireturn, 1) := by decide +kernel
theorem dX7_count_123 : decode cX7_count 123 = .ok (.aload_n 0, 1) := by decide +kernel
theorem dX7_count_124 : decode cX7_count 124 = .ok (.getfield 276, 3) := by decide +kernel
theorem dX7_count_127 : decode cX7_count 127 = .ok (.ireturn, 1) := by decide +kernel
theorem dX7_count_128 : decode cX7_count 128 = .ok (.bipush (-2), 2) := by decide +kernel
theorem dX7_count_130 : decode cX7_count 130 = .ok (.ireturn, 1) := by decide +kernel
theorem dX7_digest_0 : decode cX7_digest 0 = .ok (.ldc2_w 279, 3) := by decide +kernel
theorem dX7_digest_3 : decode cX7_digest 3 = .ok (.lstore_n 1, 1) := by decide +kernel
theorem dX7_digest_4 : decode cX7_digest 4 = .ok (.iconst 0, 1) := by decide +kernel
theorem dX7_digest_5 : decode cX7_digest 5 = .ok (.istore_n 3, 1) := by decide +kernel
theorem dX7_digest_6 : decode cX7_digest 6 = .ok (.iload_n 3, 1) := by decide +kernel
theorem dX7_digest_7 : decode cX7_digest 7 = .ok (.bipush 8, 2) := by decide +kernel
theorem dX7_digest_9 : decode cX7_digest 9 = .ok (.if_icmp .ge 20, 3) := by decide +kernel
theorem dX7_digest_12 : decode cX7_digest 12 = .ok (.lload_n 1, 1) := by decide +kernel
theorem dX7_digest_13 : decode cX7_digest 13 = .ok (.aload_n 0, 1) := by decide +kernel
theorem dX7_digest_14 : decode cX7_digest 14 = .ok (.iload_n 3, 1) := by decide +kernel
theorem dX7_digest_15 : decode cX7_digest 15 = .ok (.invokevirtual 281, 3) := by decide +kernel
theorem dX7_digest_18 : decode cX7_digest 18 = .ok (.i2l, 1) := by decide +kernel
theorem dX7_digest_19 : decode cX7_digest 19 = .ok (.invokestatic 284, 3) := by decide +kernel
theorem dX7_digest_22 : decode cX7_digest 22 = .ok (.lstore_n 1, 1) := by decide +kernel
theorem dX7_digest_23 : decode cX7_digest 23 = .ok (.iinc 3 1, 3) := by decide +kernel
theorem dX7_digest_26 : decode cX7_digest 26 = .ok (.goto (-20), 3) := by decide +kernel
theorem dX7_digest_29 : decode cX7_digest 29 = .ok (.lload_n 1, 1) := by decide +kernel
theorem dX7_digest_30 : decode cX7_digest 30 = .ok (.aload_n 0, 1) := by decide +kernel
theorem dX7_digest_31 : decode cX7_digest 31 = .ok (.iconst 0, 1) := by decide +kernel
theorem dX7_digest_32 : decode cX7_digest 32 = .ok (.invokevirtual 288, 3) := by decide +kernel
theorem dX7_digest_35 : decode cX7_digest 35 = .ok (.i2l, 1) := by decide +kernel
theorem dX7_digest_36 : decode cX7_digest 36 = .ok (.invokestatic 284, 3) := by decide +kernel
theorem dX7_digest_39 : decode cX7_digest 39 = .ok (.aload_n 0, 1) := by decide +kernel
theorem dX7_digest_40 : decode cX7_digest 40 = .ok (.iconst 1, 1) := by decide +kernel
theorem dX7_digest_41 : decode cX7_digest 41 = .ok (.invokevirtual 288, 3) := by decide +kernel
theorem dX7_digest_44 : decode cX7_digest 44 = .ok (.i2l, 1) := by decide +kernel
theorem dX7_digest_45 : decode cX7_digest 45 = .ok (.invokestatic 284, 3) := by decide +kernel
theorem dX7_digest_48 : decode cX7_digest 48 = .ok (.lstore_n 1, 1) := by decide +kernel
theorem dX7_digest_49 : decode cX7_digest 49 = .ok (.iconst 0, 1) := by decide +kernel
theorem dX7_digest_50 : decode cX7_digest 50 = .ok (.istore_n 3, 1) := by decide +kernel
theorem dX7_digest_51 : decode cX7_digest 51 = .ok (.iload_n 3, 1) := by decide +kernel
theorem dX7_digest_52 : decode cX7_digest 52 = .ok (.aload_n 0, 1) := by decide +kernel
theorem dX7_digest_53 : decode cX7_digest 53 = .ok (.getfield 21, 3) := by decide +kernel
theorem dX7_digest_56 : decode cX7_digest 56 = .ok (.getfield 92, 3) := by decide +kernel
theorem dX7_digest_59 : decode cX7_digest 59 = .ok (.if_icmp .ge 135, 3) := by decide +kernel
theorem dX7_digest_62 : decode cX7_digest 62 = .ok (.iconst 0, 1) := by decide +kernel
theorem dX7_digest_63 : decode cX7_digest 63 = .ok (.istore 4, 2) := by decide +kernel
theorem dX7_digest_65 : decode cX7_digest 65 = .ok (.iload 4, 2) := by decide +kernel
theorem dX7_digest_67 : decode cX7_digest 67 = .ok (.iconst 4, 1) := by decide +kernel
theorem dX7_digest_68 : decode cX7_digest 68 = .ok (.if_icmp .ge 22, 3) := by decide +kernel
theorem dX7_digest_71 : decode cX7_digest 71 = .ok (.lload_n 1, 1) := by decide +kernel
theorem dX7_digest_72 : decode cX7_digest 72 = .ok (.aload_n 0, 1) := by decide +kernel
theorem dX7_digest_73 : decode cX7_digest 73 = .ok (.iload_n 3, 1) := by decide +kernel
theorem dX7_digest_74 : decode cX7_digest 74 = .ok (.iload 4, 2) := by decide +kernel
theorem dX7_digest_76 : decode cX7_digest 76 = .ok (.invokevirtual 291, 3) := by decide +kernel
theorem dX7_digest_79 : decode cX7_digest 79 = .ok (.i2l, 1) := by decide +kernel
theorem dX7_digest_80 : decode cX7_digest 80 = .ok (.invokestatic 284, 3) := by decide +kernel
theorem dX7_digest_83 : decode cX7_digest 83 = .ok (.lstore_n 1, 1) := by decide +kernel
theorem dX7_digest_84 : decode cX7_digest 84 = .ok (.iinc 4 1, 3) := by decide +kernel
theorem dX7_digest_87 : decode cX7_digest 87 = .ok (.goto (-22), 3) := by decide +kernel
theorem dX7_digest_90 : decode cX7_digest 90 = .ok (.lload_n 1, 1) := by decide +kernel
theorem dX7_digest_91 : decode cX7_digest 91 = .ok (.aload_n 0, 1) := by decide +kernel
theorem dX7_digest_92 : decode cX7_digest 92 = .ok (.iconst 0, 1) := by decide +kernel
theorem dX7_digest_93 : decode cX7_digest 93 = .ok (.iload_n 3, 1) := by decide +kernel
theorem dX7_digest_94 : decode cX7_digest 94 = .ok (.invokevirtual 294, 3) := by decide +kernel
theorem dX7_digest_97 : decode cX7_digest 97 = .ok (.i2l, 1) := by decide +kernel
theorem dX7_digest_98 : decode cX7_digest 98 = .ok (.invokestatic 284, 3) := by decide +kernel
theorem dX7_digest_101 : decode cX7_digest 101 = .ok (.aload_n 0, 1) := by decide +kernel
theorem dX7_digest_102 : decode cX7_digest 102 = .ok (.bipush 9, 2) := by decide +kernel
theorem dX7_digest_104 : decode cX7_digest 104 = .ok (.iload_n 3, 1) := by decide +kernel
theorem dX7_digest_105 : decode cX7_digest 105 = .ok (.invokevirtual 294, 3) := by decide +kernel
theorem dX7_digest_108 : decode cX7_digest 108 = .ok (.i2l, 1) := by decide +kernel
theorem dX7_digest_109 : decode cX7_digest 109 = .ok (.invokestatic 284, 3) := by decide +kernel
theorem dX7_digest_112 : decode cX7_digest 112 = .ok (.aload_n 0, 1) := by decide +kernel
theorem dX7_digest_113 : decode cX7_digest 113 = .ok (.bipush 9, 2) := by decide +kernel
theorem dX7_digest_115 : decode cX7_digest 115 = .ok (.iload_n 3, 1) := by decide +kernel
theorem dX7_digest_116 : decode cX7_digest 116 = .ok (.invokevirtual 296, 3) := by decide +kernel
theorem dX7_digest_119 : decode cX7_digest 119 = .ok (.i2l, 1) := by decide +kernel
theorem dX7_digest_120 : decode cX7_digest 120 = .ok (.invokestatic 284, 3) := by decide +kernel
theorem dX7_digest_123 : decode cX7_digest 123 = .ok (.aload_n 0, 1) := by decide +kernel
theorem dX7_digest_124 : decode cX7_digest 124 = .ok (.iload_n 3, 1) := by decide +kernel
theorem dX7_digest_125 : decode cX7_digest 125 = .ok (.invokevirtual 299, 3) := by decide +kernel
theorem dX7_digest_128 : decode cX7_digest 128 = .ok (.i2l, 1) := by decide +kernel
theorem dX7_digest_129 : decode cX7_digest 129 = .ok (.invokestatic 284, 3) := by decide +kernel
theorem dX7_digest_132 : decode cX7_digest 132 = .ok (.lstore_n 1, 1) := by decide +kernel
theorem dX7_digest_133 : decode cX7_digest 133 = .ok (.lload_n 1, 1) := by decide +kernel
theorem dX7_digest_134 : decode cX7_digest 134 = .ok (.aload_n 0, 1) := by decide +kernel
theorem dX7_digest_135 : decode cX7_digest 135 = .ok (.iload_n 3, 1) := by decide +kernel
theorem dX7_digest_136 : decode cX7_digest 136 = .ok (.iconst 0, 1) := by decide +kernel
theorem dX7_digest_137 : decode cX7_digest 137 = .ok (.invokevirtual 302, 3) := by decide +kernel
theorem dX7_digest_140 : decode cX7_digest 140 = .ok (.i2l, 1) := by decide +kernel
theorem dX7_digest_141 : decode cX7_digest 141 = .ok (.invokestatic 284, 3) := by decide +kernel
theorem dX7_digest_144 : decode cX7_digest 144 = .ok (.aload_n 0, 1) := by decide +kernel
theorem dX7_digest_145 : decode cX7_digest 145 = .ok (.iload_n 3, 1) := by decide +kernel
theorem dX7_digest_146 : decode cX7_digest 146 = .ok (.iconst 1, 1) := by decide +kernel
theorem dX7_digest_147 : decode cX7_digest 147 = .ok (.invokevirtual 302, 3) := by decide +kernel
theorem dX7_digest_150 : decode cX7_digest 150 = .ok (.i2l, 1) := by decide +kernel
theorem dX7_digest_151 : decode cX7_digest 151 = .ok (.invokestatic 284, 3) := by decide +kernel
theorem dX7_digest_154 : decode cX7_digest 154 = .ok (.aload_n 0, 1) := by decide +kernel
theorem dX7_digest_155 : decode cX7_digest 155 = .ok (.iload_n 3, 1) := by decide +kernel
theorem dX7_digest_156 : decode cX7_digest 156 = .ok (.invokevirtual 305, 3) := by decide +kernel
theorem dX7_digest_159 : decode cX7_digest 159 = .ok (.i2l, 1) := by decide +kernel
theorem dX7_digest_160 : decode cX7_digest 160 = .ok (.invokestatic 284, 3) := by decide +kernel
theorem dX7_digest_163 : decode cX7_digest 163 = .ok (.lstore_n 1, 1) := by decide +kernel
theorem dX7_digest_164 : decode cX7_digest 164 = .ok (.lload_n 1, 1) := by decide +kernel
theorem dX7_digest_165 : decode cX7_digest 165 = .ok (.aload_n 0, 1) := by decide +kernel
theorem dX7_digest_166 : decode cX7_digest 166 = .ok (.iconst 5, 1) := by decide +kernel
theorem dX7_digest_167 : decode cX7_digest 167 = .ok (.iconst 3, 1) := by decide +kernel
theorem dX7_digest_168 : decode cX7_digest 168 = .ok (.iload_n 3, 1) := by decide +kernel
theorem dX7_digest_169 : decode cX7_digest 169 = .ok (.iconst 0, 1) := by decide +kernel
theorem dX7_digest_170 : decode cX7_digest 170 = .ok (.invokevirtual 308, 3) := by decide +kernel
theorem dX7_digest_173 : decode cX7_digest 173 = .ok (.invokestatic 284, 3) := by decide +kernel
theorem dX7_digest_176 : decode cX7_digest 176 = .ok (.aload_n 0, 1) := by decide +kernel
theorem dX7_digest_177 : decode cX7_digest 177 = .ok (.iconst 5, 1) := by decide +kernel
theorem dX7_digest_178 : decode cX7_digest 178 = .ok (.iconst 3, 1) := by decide +kernel
theorem dX7_digest_179 : decode cX7_digest 179 = .ok (.iload_n 3, 1) := by decide +kernel
theorem dX7_digest_180 : decode cX7_digest 180 = .ok (.iconst 1, 1) := by decide +kernel
theorem dX7_digest_181 : decode cX7_digest 181 = .ok (.invokevirtual 308, 3) := by decide +kernel
theorem dX7_digest_184 : decode cX7_digest 184 = .ok (.invokestatic 284, 3) := by decide +kernel
theorem dX7_digest_187 : decode cX7_digest 187 = .ok (.lstore_n 1, 1) := by decide +kernel
theorem dX7_digest_188 : decode cX7_digest 188 = .ok (.iinc 3 1, 3) := by decide +kernel
theorem dX7_digest_191 : decode cX7_digest 191 = .ok (.goto (-140), 3) := by decide +kernel
theorem dX7_digest_194 : decode cX7_digest 194 = .ok (.iconst 0, 1) := by decide +kernel
theorem dX7_digest_195 : decode cX7_digest 195 = .ok (.istore_n 3, 1) := by decide +kernel
theorem dX7_digest_196 : decode cX7_digest 196 = .ok (.iload_n 3, 1) := by decide +kernel
theorem dX7_digest_197 : decode cX7_digest 197 = .ok (.iconst 3, 1) := by decide +kernel
theorem dX7_digest_198 : decode cX7_digest 198 = .ok (.if_icmp .ge 74, 3) := by decide +kernel
theorem dX7_digest_201 : decode cX7_digest 201 = .ok (.iload_n 3, 1) := by decide +kernel
theorem dX7_digest_202 : decode cX7_digest 202 = .ok (.ifCond .ne 7, 3) := by decide +kernel
theorem dX7_digest_205 : decode cX7_digest 205 = .ok (.iconst 0, 1) := by decide +kernel
theorem dX7_digest_206 : decode cX7_digest 206 = .ok (.goto 14, 3) := by decide +kernel
theorem dX7_digest_209 : decode cX7_digest 209 = .ok (.iload_n 3, 1) := by decide +kernel
theorem dX7_digest_210 : decode cX7_digest 210 = .ok (.iconst 1, 1) := by decide +kernel
theorem dX7_digest_211 : decode cX7_digest 211 = .ok (.if_icmp .ne 7, 3) := by decide +kernel
theorem dX7_digest_214 : decode cX7_digest 214 = .ok (.iconst 4, 1) := by decide +kernel
theorem dX7_digest_215 : decode cX7_digest 215 = .ok (.goto 5, 3) := by decide +kernel
theorem dX7_digest_218 : decode cX7_digest 218 = .ok (.bipush 9, 2) := by decide +kernel
theorem dX7_digest_220 : decode cX7_digest 220 = .ok (.istore 4, 2) := by decide +kernel
theorem dX7_digest_222 : decode cX7_digest 222 = .ok (.lload_n 1, 1) := by decide +kernel
theorem dX7_digest_223 : decode cX7_digest 223 = .ok (.aload_n 0, 1) := by decide +kernel
theorem dX7_digest_224 : decode cX7_digest 224 = .ok (.iload 4, 2) := by decide +kernel
theorem dX7_digest_226 : decode cX7_digest 226 = .ok (.invokevirtual 312, 3) := by decide +kernel
theorem dX7_digest_229 : decode cX7_digest 229 = .ok (.i2l, 1) := by decide +kernel
theorem dX7_digest_230 : decode cX7_digest 230 = .ok (.invokestatic 284, 3) := by decide +kernel
theorem dX7_digest_233 : decode cX7_digest 233 = .ok (.aload_n 0, 1) := by decide +kernel
theorem dX7_digest_234 : decode cX7_digest 234 = .ok (.iload 4, 2) := by decide +kernel
theorem dX7_digest_236 : decode cX7_digest 236 = .ok (.iconst (-1), 1) := by decide +kernel
theorem dX7_digest_237 : decode cX7_digest 237 = .ok (.invokevirtual 315, 3) := by decide +kernel
theorem dX7_digest_240 : decode cX7_digest 240 = .ok (.i2l, 1) := by decide +kernel
theorem dX7_digest_241 : decode cX7_digest 241 = .ok (.invokestatic 284, 3) := by decide +kernel
theorem dX7_digest_244 : decode cX7_digest 244 = .ok (.aload_n 0, 1) := by decide +kernel
theorem dX7_digest_245 : decode cX7_digest 245 = .ok (.iload 4, 2) := by decide +kernel
theorem dX7_digest_247 : decode cX7_digest 247 = .ok (.iconst 0, 1) := by decide +kernel
theorem dX7_digest_248 : decode cX7_digest 248 = .ok (.invokevirtual 315, 3) := by decide +kernel
theorem dX7_digest_251 : decode cX7_digest 251 = .ok (.i2l, 1) := by decide +kernel
theorem dX7_digest_252 : decode cX7_digest 252 = .ok (.invokestatic 284, 3) := by decide +kernel
theorem dX7_digest_255 : decode cX7_digest 255 = .ok (.aload_n 0, 1) := by decide +kernel
theorem dX7_digest_256 : decode cX7_digest 256 = .ok (.iload 4, 2) := by decide +kernel
theorem dX7_digest_258 : decode cX7_digest 258 = .ok (.invokevirtual 317, 3) := by decide +kernel
theorem dX7_digest_261 : decode cX7_digest 261 = .ok (.i2l, 1) := by decide +kernel
theorem dX7_digest_262 : decode cX7_digest 262 = .ok (.invokestatic 284, 3) := by decide +kernel
theorem dX7_digest_265 : decode cX7_digest 265 = .ok (.lstore_n 1, 1) := by decide +kernel
theorem dX7_digest_266 : decode cX7_digest 266 = .ok (.iinc 3 1, 3) := by decide +kernel
theorem dX7_digest_269 : decode cX7_digest 269 = .ok (.goto (-73), 3) := by decide +kernel
theorem dX7_digest_272 : decode cX7_digest 272 = .ok (.iconst 0, 1) := by decide +kernel
theorem dX7_digest_273 : decode cX7_digest 273 = .ok (.istore_n 3, 1) := by decide +kernel
theorem dX7_digest_274 : decode cX7_digest 274 = .ok (.iload_n 3, 1) := by decide +kernel
theorem dX7_digest_275 : decode cX7_digest 275 = .ok (.iconst 3, 1) := by decide +kernel
theorem dX7_digest_276 : decode cX7_digest 276 = .ok (.if_icmp .ge 20, 3) := by decide +kernel
theorem dX7_digest_279 : decode cX7_digest 279 = .ok (.lload_n 1, 1) := by decide +kernel
theorem dX7_digest_280 : decode cX7_digest 280 = .ok (.aload_n 0, 1) := by decide +kernel
theorem dX7_digest_281 : decode cX7_digest 281 = .ok (.iload_n 3, 1) := by decide +kernel
theorem dX7_digest_282 : decode cX7_digest 282 = .ok (.invokevirtual 320, 3) := by decide +kernel
theorem dX7_digest_285 : decode cX7_digest 285 = .ok (.i2l, 1) := by decide +kernel
theorem dX7_digest_286 : decode cX7_digest 286 = .ok (.invokestatic 284, 3) := by decide +kernel
theorem dX7_digest_289 : decode cX7_digest 289 = .ok (.lstore_n 1, 1) := by decide +kernel
theorem dX7_digest_290 : decode cX7_digest 290 = .ok (.iinc 3 1, 3) := by decide +kernel
theorem dX7_digest_293 : decode cX7_digest 293 = .ok (.goto (-19), 3) := by decide +kernel
theorem dX7_digest_296 : decode cX7_digest 296 = .ok (.lload_n 1, 1) := by decide +kernel
theorem dX7_digest_297 : decode cX7_digest 297 = .ok (.aload_n 0, 1) := by decide +kernel
theorem dX7_digest_298 : decode cX7_digest 298 = .ok (.invokevirtual 323, 3) := by decide +kernel
theorem dX7_digest_301 : decode cX7_digest 301 = .ok (.i2l, 1) := by decide +kernel
theorem dX7_digest_302 : decode cX7_digest 302 = .ok (.invokestatic 284, 3) := by decide +kernel
theorem dX7_digest_305 : decode cX7_digest 305 = .ok (.aload_n 0, 1) := by decide +kernel
theorem dX7_digest_306 : decode cX7_digest 306 = .ok (.iconst 0, 1) := by decide +kernel
theorem dX7_digest_307 : decode cX7_digest 307 = .ok (.invokevirtual 326, 3) := by decide +kernel
theorem dX7_digest_310 : decode cX7_digest 310 = .ok (.i2l, 1) := by decide +kernel
theorem dX7_digest_311 : decode cX7_digest 311 = .ok (.invokestatic 284, 3) := by decide +kernel
theorem dX7_digest_314 : decode cX7_digest 314 = .ok (.aload_n 0, 1) := by decide +kernel
theorem dX7_digest_315 : decode cX7_digest 315 = .ok (.iconst 1, 1) := by decide +kernel
theorem dX7_digest_316 : decode cX7_digest 316 = .ok (.invokevirtual 326, 3) := by decide +kernel
theorem dX7_digest_319 : decode cX7_digest 319 = .ok (.i2l, 1) := by decide +kernel
theorem dX7_digest_320 : decode cX7_digest 320 = .ok (.invokestatic 284, 3) := by decide +kernel
theorem dX7_digest_323 : decode cX7_digest 323 = .ok (.lstore_n 1, 1) := by decide +kernel
theorem dX7_digest_324 : decode cX7_digest 324 = .ok (.lload_n 1, 1) := by decide +kernel
theorem dX7_digest_325 : decode cX7_digest 325 = .ok (.aload_n 0, 1) := by decide +kernel
theorem dX7_digest_326 : decode cX7_digest 326 = .ok (.iconst 0, 1) := by decide +kernel
theorem dX7_digest_327 : decode cX7_digest 327 = .ok (.invokevirtual 329, 3) := by decide +kernel
theorem dX7_digest_330 : decode cX7_digest 330 = .ok (.i2l, 1) := by decide +kernel
theorem dX7_digest_331 : decode cX7_digest 331 = .ok (.invokestatic 284, 3) := by decide +kernel
theorem dX7_digest_334 : decode cX7_digest 334 = .ok (.aload_n 0, 1) := by decide +kernel
theorem dX7_digest_335 : decode cX7_digest 335 = .ok (.iconst 1, 1) := by decide +kernel
theorem dX7_digest_336 : decode cX7_digest 336 = .ok (.invokevirtual 329, 3) := by decide +kernel
theorem dX7_digest_339 : decode cX7_digest 339 = .ok (.i2l, 1) := by decide +kernel
theorem dX7_digest_340 : decode cX7_digest 340 = .ok (.invokestatic 284, 3) := by decide +kernel
theorem dX7_digest_343 : decode cX7_digest 343 = .ok (.aload_n 0, 1) := by decide +kernel
theorem dX7_digest_344 : decode cX7_digest 344 = .ok (.iconst 0, 1) := by decide +kernel
theorem dX7_digest_345 : decode cX7_digest 345 = .ok (.invokevirtual 332, 3) := by decide +kernel
theorem dX7_digest_348 : decode cX7_digest 348 = .ok (.i2l, 1) := by decide +kernel
theorem dX7_digest_349 : decode cX7_digest 349 = .ok (.invokestatic 284, 3) := by decide +kernel
theorem dX7_digest_352 : decode cX7_digest 352 = .ok (.aload_n 0, 1) := by decide +kernel
theorem dX7_digest_353 : decode cX7_digest 353 = .ok (.iconst 1, 1) := by decide +kernel
theorem dX7_digest_354 : decode cX7_digest 354 = .ok (.invokevirtual 332, 3) := by decide +kernel
theorem dX7_digest_357 : decode cX7_digest 357 = .ok (.i2l, 1) := by decide +kernel
theorem dX7_digest_358 : decode cX7_digest 358 = .ok (.invokestatic 284, 3) := by decide +kernel
theorem dX7_digest_361 : decode cX7_digest 361 = .ok (.lstore_n 1, 1) := by decide +kernel
theorem dX7_digest_362 : decode cX7_digest 362 = .ok (.lload_n 1, 1) := by decide +kernel
theorem dX7_digest_363 : decode cX7_digest 363 = .ok (.aload_n 0, 1) := by decide +kernel
theorem dX7_digest_364 : decode cX7_digest 364 = .ok (.invokevirtual 335, 3) := by decide +kernel
theorem dX7_digest_367 : decode cX7_digest 367 = .ok (.i2l, 1) := by decide +kernel
theorem dX7_digest_368 : decode cX7_digest 368 = .ok (.invokestatic 284, 3) := by decide +kernel
theorem dX7_digest_371 : decode cX7_digest 371 = .ok (.aload_n 0, 1) := by decide +kernel
theorem dX7_digest_372 : decode cX7_digest 372 = .ok (.bipush 7, 2) := by decide +kernel
theorem dX7_digest_374 : decode cX7_digest 374 = .ok (.bipush 9, 2) := by decide +kernel
theorem dX7_digest_376 : decode cX7_digest 376 = .ok (.iconst 0, 1) := by decide +kernel
theorem dX7_digest_377 : decode cX7_digest 377 = .ok (.invokevirtual 338, 3) := by decide +kernel
theorem dX7_digest_380 : decode cX7_digest 380 = .ok (.i2l, 1) := by decide +kernel
theorem dX7_digest_381 : decode cX7_digest 381 = .ok (.invokestatic 284, 3) := by decide +kernel
theorem dX7_digest_384 : decode cX7_digest 384 = .ok (.aload_n 0, 1) := by decide +kernel
theorem dX7_digest_385 : decode cX7_digest 385 = .ok (.bipush 7, 2) := by decide +kernel
theorem dX7_digest_387 : decode cX7_digest 387 = .ok (.bipush 9, 2) := by decide +kernel
theorem dX7_digest_389 : decode cX7_digest 389 = .ok (.iconst 1, 1) := by decide +kernel
theorem dX7_digest_390 : decode cX7_digest 390 = .ok (.invokevirtual 338, 3) := by decide +kernel
theorem dX7_digest_393 : decode cX7_digest 393 = .ok (.i2l, 1) := by decide +kernel
theorem dX7_digest_394 : decode cX7_digest 394 = .ok (.invokestatic 284, 3) := by decide +kernel
theorem dX7_digest_397 : decode cX7_digest 397 = .ok (.lreturn, 1) := by decide +kernel
theorem dX7_isOutside_0 : decode cX7_isOutside 0 = .ok (.iload_n 0, 1) := by decide +kernel
theorem dX7_isOutside_1 : decode cX7_isOutside 1 = .ok (.ifCond .lt 8, 3) := by decide +kernel
theorem dX7_isOutside_4 : decode cX7_isOutside 4 = .ok (.iload_n 0, 1) := by decide +kernel
theorem dX7_isOutside_5 : decode cX7_isOutside 5 = .ok (.iload_n 1, 1) := by decide +kernel
theorem dX7_isOutside_6 : decode cX7_isOutside 6 = .ok (.if_icmp .lt 7, 3) := by decide +kernel
theorem dX7_isOutside_9 : decode cX7_isOutside 9 = .ok (.iconst 1, 1) := by decide +kernel
theorem dX7_isOutside_10 : decode cX7_isOutside 10 = .ok (.goto 4, 3) := by decide +kernel
theorem dX7_isOutside_13 : decode cX7_isOutside 13 = .ok (.iconst 0, 1) := by decide +kernel
theorem dX7_isOutside_14 : decode cX7_isOutside 14 = .ok (.ireturn, 1) := by decide +kernel
theorem dX7_mix_0 : decode cX7_mix 0 = .ok (.ldc2_w 341, 3) := by decide +kernel
theorem dX7_mix_3 : decode cX7_mix 3 = .ok (.lload_n 0, 1) := by decide +kernel
theorem dX7_mix_4 : decode cX7_mix 4 = .ok (.lmul, 1) := by decide +kernel
theorem dX7_mix_5 : decode cX7_mix 5 = .ok (.lload_n 2, 1) := by decide +kernel
theorem dX7_mix_6 : decode cX7_mix 6 = .ok (.ladd, 1) := by decide +kernel
theorem dX7_mix_7 : decode cX7_mix 7 = .ok (.lreturn, 1) := by decide +kernel
theorem dX7_tellAnew_0 : decode cX7_tellAnew 0 = .ok (.aload_n 0, 1) := by decide +kernel
theorem dX7_tellAnew_1 : decode cX7_tellAnew 1 = .ok (.getfield 21, 3) := by decide +kernel
theorem dX7_tellAnew_4 : decode cX7_tellAnew 4 = .ok (.aload_n 0, 1) := by decide +kernel
theorem dX7_tellAnew_5 : decode cX7_tellAnew 5 = .ok (.getfield 14, 3) := by decide +kernel
theorem dX7_tellAnew_8 : decode cX7_tellAnew 8 = .ok (.iconst 0, 1) := by decide +kernel
theorem dX7_tellAnew_9 : decode cX7_tellAnew 9 = .ok (.aaload, 1) := by decide +kernel
theorem dX7_tellAnew_10 : decode cX7_tellAnew 10 = .ok (.invokevirtual 343, 3) := by decide +kernel
theorem dX7_tellAnew_13 : decode cX7_tellAnew 13 = .ok (.aload_n 0, 1) := by decide +kernel
theorem dX7_tellAnew_14 : decode cX7_tellAnew 14 = .ok (.getfield 21, 3) := by decide +kernel
theorem dX7_tellAnew_17 : decode cX7_tellAnew 17 = .ok (.aload_n 0, 1) := by decide +kernel
theorem dX7_tellAnew_18 : decode cX7_tellAnew 18 = .ok (.getfield 14, 3) := by decide +kernel
theorem dX7_tellAnew_21 : decode cX7_tellAnew 21 = .ok (.iconst 1, 1) := by decide +kernel
theorem dX7_tellAnew_22 : decode cX7_tellAnew 22 = .ok (.aaload, 1) := by decide +kernel
theorem dX7_tellAnew_23 : decode cX7_tellAnew 23 = .ok (.invokevirtual 347, 3) := by decide +kernel
theorem dX7_tellAnew_26 : decode cX7_tellAnew 26 = .ok (.aload_n 0, 1) := by decide +kernel
theorem dX7_tellAnew_27 : decode cX7_tellAnew 27 = .ok (.getfield 40, 3) := by decide +kernel
theorem dX7_tellAnew_30 : decode cX7_tellAnew 30 = .ok (.aload_n 0, 1) := by decide +kernel
theorem dX7_tellAnew_31 : decode cX7_tellAnew 31 = .ok (.getfield 21, 3) := by decide +kernel
theorem dX7_tellAnew_34 : decode cX7_tellAnew 34 = .ok (.invokevirtual 350, 3) := by decide +kernel
theorem dX7_tellAnew_37 : decode cX7_tellAnew 37 = .ok (.aload_n 0, 1) := by decide +kernel
theorem dX7_tellAnew_38 : decode cX7_tellAnew 38 = .ok (.getfield 30, 3) := by decide +kernel
theorem dX7_tellAnew_41 : decode cX7_tellAnew 41 = .ok (.invokevirtual 171, 3) := by decide +kernel
theorem dX7_tellAnew_44 : decode cX7_tellAnew 44 = .ok (.aload_n 0, 1) := by decide +kernel
theorem dX7_tellAnew_45 : decode cX7_tellAnew 45 = .ok (.getfield 30, 3) := by decide +kernel
theorem dX7_tellAnew_48 : decode cX7_tellAnew 48 = .ok (.invokevirtual 181, 3) := by decide +kernel
theorem dX7_tellAnew_51 : decode cX7_tellAnew 51 = .ok (.return_, 1) := by decide +kernel
theorem dX7_tellEven_0 : decode cX7_tellEven 0 = .ok (.aload_n 0, 1) := by decide +kernel
theorem dX7_tellEven_1 : decode cX7_tellEven 1 = .ok (.getfield 21, 3) := by decide +kernel
theorem dX7_tellEven_4 : decode cX7_tellEven 4 = .ok (.getfield 352, 3) := by decide +kernel
theorem dX7_tellEven_7 : decode cX7_tellEven 7 = .ok (.istore_n 2, 1) := by decide +kernel
theorem dX7_tellEven_8 : decode cX7_tellEven 8 = .ok (.aload_n 0, 1) := by decide +kernel
theorem dX7_tellEven_9 : decode cX7_tellEven 9 = .ok (.getfield 21, 3) := by decide +kernel
theorem dX7_tellEven_12 : decode cX7_tellEven 12 = .ok (.iload_n 1, 1) := by decide +kernel
theorem dX7_tellEven_13 : decode cX7_tellEven 13 = .ok (.putfield 352, 3) := by decide +kernel
theorem dX7_tellEven_16 : decode cX7_tellEven 16 = .ok (.aload_n 0, 1) := by decide +kernel
theorem dX7_tellEven_17 : decode cX7_tellEven 17 = .ok (.invokevirtual 67, 3) := by decide +kernel
theorem dX7_tellEven_20 : decode cX7_tellEven 20 = .ok (.iload_n 2, 1) := by decide +kernel
theorem dX7_tellEven_21 : decode cX7_tellEven 21 = .ok (.ireturn, 1) := by decide +kernel
theorem dX7_tellChanges_0 : decode cX7_tellChanges 0 = .ok (.aload_n 0, 1) := by decide +kernel
theorem dX7_tellChanges_1 : decode cX7_tellChanges 1 = .ok (.getfield 21, 3) := by decide +kernel
theorem dX7_tellChanges_4 : decode cX7_tellChanges 4 = .ok (.getfield 227, 3) := by decide +kernel
theorem dX7_tellChanges_7 : decode cX7_tellChanges 7 = .ok (.istore_n 2, 1) := by decide +kernel
theorem dX7_tellChanges_8 : decode cX7_tellChanges 8 = .ok (.aload_n 0, 1) := by decide +kernel
theorem dX7_tellChanges_9 : decode cX7_tellChanges 9 = .ok (.getfield 21, 3) := by decide +kernel
theorem dX7_tellChanges_12 : decode cX7_tellChanges 12 = .ok (.iload_n 1, 1) := by decide +kernel
theorem dX7_tellChanges_13 : decode cX7_tellChanges 13 = .ok (.putfield 227, 3) := by decide +kernel
theorem dX7_tellChanges_16 : decode cX7_tellChanges 16 = .ok (.aload_n 0, 1) := by decide +kernel
theorem dX7_tellChanges_17 : decode cX7_tellChanges 17 = .ok (.invokevirtual 67, 3) := by decide +kernel
theorem dX7_tellChanges_20 : decode cX7_tellChanges 20 = .ok (.iload_n 2, 1) := by decide +kernel
theorem dX7_tellChanges_21 : decode cX7_tellChanges 21 = .ok (.ireturn, 1) := by decide +kernel
theorem dX7_tellForgets_0 : decode cX7_tellForgets 0 = .ok (.aload_n 0, 1) := by decide +kernel
theorem dX7_tellForgets_1 : decode cX7_tellForgets 1 = .ok (.getfield 21, 3) := by decide +kernel
theorem dX7_tellForgets_4 : decode cX7_tellForgets 4 = .ok (.getfield 355, 3) := by decide +kernel
theorem dX7_tellForgets_7 : decode cX7_tellForgets 7 = .ok (.istore_n 2, 1) := by decide +kernel
theorem dX7_tellForgets_8 : decode cX7_tellForgets 8 = .ok (.aload_n 0, 1) := by decide +kernel
theorem dX7_tellForgets_9 : decode cX7_tellForgets 9 = .ok (.getfield 21, 3) := by decide +kernel
theorem dX7_tellForgets_12 : decode cX7_tellForgets 12 = .ok (.iload_n 1, 1) := by decide +kernel
theorem dX7_tellForgets_13 : decode cX7_tellForgets 13 = .ok (.putfield 355, 3) := by decide +kernel
theorem dX7_tellForgets_16 : decode cX7_tellForgets 16 = .ok (.aload_n 0, 1) := by decide +kernel
theorem dX7_tellForgets_17 : decode cX7_tellForgets 17 = .ok (.invokevirtual 67, 3) := by decide +kernel
theorem dX7_tellForgets_20 : decode cX7_tellForgets 20 = .ok (.iload_n 2, 1) := by decide +kernel
theorem dX7_tellForgets_21 : decode cX7_tellForgets 21 = .ok (.ireturn, 1) := by decide +kernel
theorem dX7_rideWithEven_0 : decode cX7_rideWithEven 0 = .ok (.aload_n 0, 1) := by decide +kernel
theorem dX7_rideWithEven_1 : decode cX7_rideWithEven 1 = .ok (.getfield 34, 3) := by decide +kernel
theorem dX7_rideWithEven_4 : decode cX7_rideWithEven 4 = .ok (.invokevirtual 171, 3) := by decide +kernel
theorem dX7_rideWithEven_7 : decode cX7_rideWithEven 7 = .ok (.aload_n 0, 1) := by decide +kernel
theorem dX7_rideWithEven_8 : decode cX7_rideWithEven 8 = .ok (.getfield 34, 3) := by decide +kernel
theorem dX7_rideWithEven_11 : decode cX7_rideWithEven 11 = .ok (.iload_n 1, 1) := by decide +kernel
theorem dX7_rideWithEven_12 : decode cX7_rideWithEven 12 = .ok (.putfield 358, 3) := by decide +kernel
theorem dX7_rideWithEven_15 : decode cX7_rideWithEven 15 = .ok (.aload_n 0, 1) := by decide +kernel
theorem dX7_rideWithEven_16 : decode cX7_rideWithEven 16 = .ok (.getfield 34, 3) := by decide +kernel
theorem dX7_rideWithEven_19 : decode cX7_rideWithEven 19 = .ok (.invokevirtual 181, 3) := by decide +kernel
theorem dX7_rideWithEven_22 : decode cX7_rideWithEven 22 = .ok (.return_, 1) := by decide +kernel
theorem dX7_clearAlike_0 : decode cX7_clearAlike 0 = .ok (.iconst 0, 1) := by decide +kernel
theorem dX7_clearAlike_1 : decode cX7_clearAlike 1 = .ok (.istore_n 1, 1) := by decide +kernel
theorem dX7_clearAlike_2 : decode cX7_clearAlike 2 = .ok (.iload_n 1, 1) := by decide +kernel
theorem dX7_clearAlike_3 : decode cX7_clearAlike 3 = .ok (.bipush 8, 2) := by decide +kernel
theorem dX7_clearAlike_5 : decode cX7_clearAlike 5 = .ok (.if_icmp .ge 19, 3) := by decide +kernel
theorem dX7_clearAlike_8 : decode cX7_clearAlike 8 = .ok (.aload_n 0, 1) := by decide +kernel
theorem dX7_clearAlike_9 : decode cX7_clearAlike 9 = .ok (.getfield 60, 3) := by decide +kernel
theorem dX7_clearAlike_12 : decode cX7_clearAlike 12 = .ok (.iload_n 1, 1) := by decide +kernel
theorem dX7_clearAlike_13 : decode cX7_clearAlike 13 = .ok (.aaload, 1) := by decide +kernel
theorem dX7_clearAlike_14 : decode cX7_clearAlike 14 = .ok (.iconst 0, 1) := by decide +kernel
theorem dX7_clearAlike_15 : decode cX7_clearAlike 15 = .ok (.invokestatic 221, 3) := by decide +kernel
theorem dX7_clearAlike_18 : decode cX7_clearAlike 18 = .ok (.iinc 1 1, 3) := by decide +kernel
theorem dX7_clearAlike_21 : decode cX7_clearAlike 21 = .ok (.goto (-19), 3) := by decide +kernel
theorem dX7_clearAlike_24 : decode cX7_clearAlike 24 = .ok (.return_, 1) := by decide +kernel
theorem dX7_countAlike_0 : decode cX7_countAlike 0 = .ok (.iconst 0, 1) := by decide +kernel
theorem dX7_countAlike_1 : decode cX7_countAlike 1 = .ok (.istore_n 2, 1) := by decide +kernel
theorem dX7_countAlike_2 : decode cX7_countAlike 2 = .ok (.iload_n 2, 1) := by decide +kernel
theorem dX7_countAlike_3 : decode cX7_countAlike 3 = .ok (.aload_n 0, 1) := by decide +kernel
theorem dX7_countAlike_4 : decode cX7_countAlike 4 = .ok (.getfield 21, 3) := by decide +kernel
theorem dX7_countAlike_7 : decode cX7_countAlike 7 = .ok (.getfield 92, 3) := by decide +kernel
theorem dX7_countAlike_10 : decode cX7_countAlike 10 = .ok (.if_icmp .ge 41, 3) := by decide +kernel
theorem dX7_countAlike_13 : decode cX7_countAlike 13 = .ok (.aload_n 0, 1) := by decide +kernel
theorem dX7_countAlike_14 : decode cX7_countAlike 14 = .ok (.getfield 34, 3) := by decide +kernel
theorem dX7_countAlike_17 : decode cX7_countAlike 17 = .ok (.iload_n 1, 1) := by decide +kernel
theorem dX7_countAlike_18 : decode cX7_countAlike 18 = .ok (.iload_n 2, 1) := by decide +kernel
theorem dX7_countAlike_19 : decode cX7_countAlike 19 = .ok (.invokevirtual 120, 3) := by decide +kernel
theorem dX7_countAlike_22 : decode cX7_countAlike 22 = .ok (.istore_n 3, 1) := by decide +kernel
theorem dX7_countAlike_23 : decode cX7_countAlike 23 = .ok (.aload_n 0, 1) := by decide +kernel
theorem dX7_countAlike_24 : decode cX7_countAlike 24 = .ok (.getfield 60, 3) := by decide +kernel
theorem dX7_countAlike_27 : decode cX7_countAlike 27 = .ok (.iload_n 2, 1) := by decide +kernel
theorem dX7_countAlike_28 : decode cX7_countAlike 28 = .ok (.aaload, 1) := by decide +kernel
theorem dX7_countAlike_29 : decode cX7_countAlike 29 = .ok (.iload_n 3, 1) := by decide +kernel
theorem dX7_countAlike_30 : decode cX7_countAlike 30 = .ok (.iconst (-1), 1) := by decide +kernel
theorem dX7_countAlike_31 : decode cX7_countAlike 31 = .ok (.if_icmp .ne 8, 3) := by decide +kernel
theorem dX7_countAlike_34 : decode cX7_countAlike 34 = .ok (.bipush 8, 2) := by decide +kernel
theorem dX7_countAlike_36 : decode cX7_countAlike 36 = .ok (.goto 4, 3) := by decide +kernel
theorem dX7_countAlike_39 : decode cX7_countAlike 39 = .ok (.iload_n 3, 1) := by decide +kernel
theorem dX7_countAlike_40 : decode cX7_countAlike 40 = .ok (.dup2, 1) := by decide +kernel
theorem dX7_countAlike_41 : decode cX7_countAlike 41 = .ok (.iaload, 1) := by decide +kernel
theorem dX7_countAlike_42 : decode cX7_countAlike 42 = .ok (.iconst 1, 1) := by decide +kernel
theorem dX7_countAlike_43 : decode cX7_countAlike 43 = .ok (.iadd, 1) := by decide +kernel
theorem dX7_countAlike_44 : decode cX7_countAlike 44 = .ok (.iastore, 1) := by decide +kernel
theorem dX7_countAlike_45 : decode cX7_countAlike 45 = .ok (.iinc 2 1, 3) := by decide +kernel
theorem dX7_countAlike_48 : decode cX7_countAlike 48 = .ok (.goto (-46), 3) := by decide +kernel
theorem dX7_countAlike_51 : decode cX7_countAlike 51 = .ok (.return_, 1) := by decide +kernel
theorem dX7_greatestOf_0 : decode cX7_greatestOf 0 = .ok (.iconst 0, 1) := by decide +kernel
theorem dX7_greatestOf_1 : decode cX7_greatestOf 1 = .ok (.istore_n 1, 1) := by decide +kernel
theorem dX7_greatestOf_2 : decode cX7_greatestOf 2 = .ok (.aload_n 0, 1) := by decide +kernel
theorem dX7_greatestOf_3 : decode cX7_greatestOf 3 = .ok (.astore_n 2, 1) := by decide +kernel
theorem dX7_greatestOf_4 : decode cX7_greatestOf 4 = .ok (.aload_n 2, 1) := by decide +kernel
theorem dX7_greatestOf_5 : decode cX7_greatestOf 5 = .ok (.arraylength, 1) := by decide +kernel
theorem dX7_greatestOf_6 : decode cX7_greatestOf 6 = .ok (.istore_n 3, 1) := by decide +kernel
theorem dX7_greatestOf_7 : decode cX7_greatestOf 7 = .ok (.iconst 0, 1) := by decide +kernel
theorem dX7_greatestOf_8 : decode cX7_greatestOf 8 = .ok (.istore 4, 2) := by decide +kernel
theorem dX7_greatestOf_10 : decode cX7_greatestOf 10 = .ok (.iload 4, 2) := by decide +kernel
theorem dX7_greatestOf_12 : decode cX7_greatestOf 12 = .ok (.iload_n 3, 1) := by decide +kernel
theorem dX7_greatestOf_13 : decode cX7_greatestOf 13 = .ok (.if_icmp .ge 22, 3) := by decide +kernel
theorem dX7_greatestOf_16 : decode cX7_greatestOf 16 = .ok (.aload_n 2, 1) := by decide +kernel
theorem dX7_greatestOf_17 : decode cX7_greatestOf 17 = .ok (.iload 4, 2) := by decide +kernel
theorem dX7_greatestOf_19 : decode cX7_greatestOf 19 = .ok (.iaload, 1) := by decide +kernel
theorem dX7_greatestOf_20 : decode cX7_greatestOf 20 = .ok (.istore 5, 2) := by decide +kernel
theorem dX7_greatestOf_22 : decode cX7_greatestOf 22 = .ok (.iload_n 1, 1) := by decide +kernel
theorem dX7_greatestOf_23 : decode cX7_greatestOf 23 = .ok (.iload 5, 2) := by decide +kernel
theorem dX7_greatestOf_25 : decode cX7_greatestOf 25 = .ok (.invokestatic 359, 3) := by decide +kernel
theorem dX7_greatestOf_28 : decode cX7_greatestOf 28 = .ok (.istore_n 1, 1) := by decide +kernel
theorem dX7_greatestOf_29 : decode cX7_greatestOf 29 = .ok (.iinc 4 1, 3) := by decide +kernel
theorem dX7_greatestOf_32 : decode cX7_greatestOf 32 = .ok (.goto (-22), 3) := by decide +kernel
theorem dX7_greatestOf_35 : decode cX7_greatestOf 35 = .ok (.iload_n 1, 1) := by decide +kernel
theorem dX7_greatestOf_36 : decode cX7_greatestOf 36 = .ok (.ireturn, 1) := by decide +kernel
theorem dX7_chanceAbove_0 : decode cX7_chanceAbove 0 = .ok (.lconst 0, 1) := by decide +kernel
theorem dX7_chanceAbove_1 : decode cX7_chanceAbove 1 = .ok (.lstore_n 3, 1) := by decide +kernel
theorem dX7_chanceAbove_2 : decode cX7_chanceAbove 2 = .ok (.iconst 0, 1) := by decide +kernel
theorem dX7_chanceAbove_3 : decode cX7_chanceAbove 3 = .ok (.istore 5, 2) := by decide +kernel
theorem dX7_chanceAbove_5 : decode cX7_chanceAbove 5 = .ok (.iload 5, 2) := by decide +kernel
theorem dX7_chanceAbove_7 : decode cX7_chanceAbove 7 = .ok (.iload_n 2, 1) := by decide +kernel
theorem dX7_chanceAbove_8 : decode cX7_chanceAbove 8 = .ok (.if_icmp .gt 71, 3) := by decide +kernel
theorem dX7_chanceAbove_11 : decode cX7_chanceAbove 11 = .ok (.iload 5, 2) := by decide +kernel
theorem dX7_chanceAbove_13 : decode cX7_chanceAbove 13 = .ok (.aload_n 0, 1) := by decide +kernel
theorem dX7_chanceAbove_14 : decode cX7_chanceAbove 14 = .ok (.getfield 63, 3) := by decide +kernel
theorem dX7_chanceAbove_17 : decode cX7_chanceAbove 17 = .ok (.arraylength, 1) := by decide +kernel
theorem dX7_chanceAbove_18 : decode cX7_chanceAbove 18 = .ok (.if_icmp .ge 61, 3) := by decide +kernel
theorem dX7_chanceAbove_21 : decode cX7_chanceAbove 21 = .ok (.aload_n 0, 1) := by decide +kernel
theorem dX7_chanceAbove_22 : decode cX7_chanceAbove 22 = .ok (.getfield 63, 3) := by decide +kernel
theorem dX7_chanceAbove_25 : decode cX7_chanceAbove 25 = .ok (.iload 5, 2) := by decide +kernel
theorem dX7_chanceAbove_27 : decode cX7_chanceAbove 27 = .ok (.iaload, 1) := by decide +kernel
theorem dX7_chanceAbove_28 : decode cX7_chanceAbove 28 = .ok (.i2l, 1) := by decide +kernel
theorem dX7_chanceAbove_29 : decode cX7_chanceAbove 29 = .ok (.lstore 6, 2) := by decide +kernel
theorem dX7_chanceAbove_31 : decode cX7_chanceAbove 31 = .ok (.iconst 0, 1) := by decide +kernel
theorem dX7_chanceAbove_32 : decode cX7_chanceAbove 32 = .ok (.istore 8, 2) := by decide +kernel
theorem dX7_chanceAbove_34 : decode cX7_chanceAbove 34 = .ok (.iload 8, 2) := by decide +kernel
theorem dX7_chanceAbove_36 : decode cX7_chanceAbove 36 = .ok (.iload_n 2, 1) := by decide +kernel
theorem dX7_chanceAbove_37 : decode cX7_chanceAbove 37 = .ok (.if_icmp .ge 31, 3) := by decide +kernel
theorem dX7_chanceAbove_40 : decode cX7_chanceAbove 40 = .ok (.lload 6, 2) := by decide +kernel
theorem dX7_chanceAbove_42 : decode cX7_chanceAbove 42 = .ok (.iload 8, 2) := by decide +kernel
theorem dX7_chanceAbove_44 : decode cX7_chanceAbove 44 = .ok (.iload 5, 2) := by decide +kernel
theorem dX7_chanceAbove_46 : decode cX7_chanceAbove 46 = .ok (.if_icmp .ge 8, 3) := by decide +kernel
theorem dX7_chanceAbove_49 : decode cX7_chanceAbove 49 = .ok (.iload_n 1, 1) := by decide +kernel
theorem dX7_chanceAbove_50 : decode cX7_chanceAbove 50 = .ok (.i2l, 1) := by decide +kernel
theorem dX7_chanceAbove_51 : decode cX7_chanceAbove 51 = .ok (.goto 8, 3) := by decide +kernel
theorem dX7_chanceAbove_54 : decode cX7_chanceAbove 54 = .ok (.bipush 16, 2) := by decide +kernel
theorem dX7_chanceAbove_56 : decode cX7_chanceAbove 56 = .ok (.iload_n 1, 1) := by decide +kernel
theorem dX7_chanceAbove_57 : decode cX7_chanceAbove 57 = .ok (.isub, 1) := by decide +kernel
theorem dX7_chanceAbove_58 : decode cX7_chanceAbove 58 = .ok (.i2l, 1) := by decide +kernel
theorem dX7_chanceAbove_59 : decode cX7_chanceAbove 59 = .ok (.lmul, 1) := by decide +kernel
theorem dX7_chanceAbove_60 : decode cX7_chanceAbove 60 = .ok (.lstore 6, 2) := by decide +kernel
theorem dX7_chanceAbove_62 : decode cX7_chanceAbove 62 = .ok (.iinc 8 1, 3) := by decide +kernel
theorem dX7_chanceAbove_65 : decode cX7_chanceAbove 65 = .ok (.goto (-31), 3) := by decide +kernel
theorem dX7_chanceAbove_68 : decode cX7_chanceAbove 68 = .ok (.lload_n 3, 1) := by decide +kernel
theorem dX7_chanceAbove_69 : decode cX7_chanceAbove 69 = .ok (.lload 6, 2) := by decide +kernel
theorem dX7_chanceAbove_71 : decode cX7_chanceAbove 71 = .ok (.ladd, 1) := by decide +kernel
theorem dX7_chanceAbove_72 : decode cX7_chanceAbove 72 = .ok (.lstore_n 3, 1) := by decide +kernel
theorem dX7_chanceAbove_73 : decode cX7_chanceAbove 73 = .ok (.iinc 5 1, 3) := by decide +kernel
theorem dX7_chanceAbove_76 : decode cX7_chanceAbove 76 = .ok (.goto (-71), 3) := by decide +kernel
theorem dX7_chanceAbove_79 : decode cX7_chanceAbove 79 = .ok (.lload_n 3, 1) := by decide +kernel
theorem dX7_chanceAbove_80 : decode cX7_chanceAbove 80 = .ok (.lreturn, 1) := by decide +kernel
theorem dX7_finding_0 : decode cX7_finding 0 = .ok (.aload_n 0, 1) := by decide +kernel
theorem dX7_finding_1 : decode cX7_finding 1 = .ok (.iload_n 1, 1) := by decide +kernel
theorem dX7_finding_2 : decode cX7_finding 2 = .ok (.putfield 276, 3) := by decide +kernel
theorem dX7_finding_5 : decode cX7_finding 5 = .ok (.bipush (-10), 2) := by decide +kernel
theorem dX7_finding_7 : decode cX7_finding 7 = .ok (.iload_n 1, 1) := by decide +kernel
theorem dX7_finding_8 : decode cX7_finding 8 = .ok (.isub, 1) := by decide +kernel
theorem dX7_finding_9 : decode cX7_finding 9 = .ok (.ireturn, 1) := by decide +kernel
theorem dX7_refusalOfItem_0 : decode cX7_refusalOfItem 0 = .ok (.iload_n 1, 1) := by decide +kernel
theorem dX7_refusalOfItem_1 : decode cX7_refusalOfItem 1 = .ok (.iconst 4, 1) := by decide +kernel
theorem dX7_refusalOfItem_2 : decode cX7_refusalOfItem 2 = .ok (.invokestatic 70, 3) := by decide +kernel
theorem dX7_refusalOfItem_5 : decode cX7_refusalOfItem 5 = .ok (.ifCond .ne 11, 3) := by decide +kernel
theorem dX7_refusalOfItem_8 : decode cX7_refusalOfItem 8 = .ok (.iload_n 2, 1) := by decide +kernel
theorem dX7_refusalOfItem_9 : decode cX7_refusalOfItem 9 = .ok (.iconst 3, 1) := by decide +kernel
theorem dX7_refusalOfItem_10 : decode cX7_refusalOfItem 10 = .ok (.invokestatic 70, 3) := by decide +kernel
theorem dX7_refusalOfItem_13 : decode cX7_refusalOfItem 13 = .ok (.ifCond .eq 6, 3) := by decide +kernel
theorem dX7_refusalOfItem_16 : decode cX7_refusalOfItem 16 = .ok (.bipush (-2), 2) := by decide +kernel
theorem dX7_refusalOfItem_18 : decode cX7_refusalOfItem 18 = .ok (.ireturn, 1) := by decide +kernel
theorem dX7_refusalOfItem_19 : decode cX7_refusalOfItem 19 = .ok (.aload_n 0, 1) := by decide +kernel
theorem dX7_refusalOfItem_20 : decode cX7_refusalOfItem 20 = .ok (.getfield 54, 3) := by decide +kernel
theorem dX7_refusalOfItem_23 : decode cX7_refusalOfItem 23 = .ok (.iload_n 1, 1) := by decide +kernel
theorem dX7_refusalOfItem_24 : decode cX7_refusalOfItem 24 = .ok (.aaload, 1) := by decide +kernel
theorem dX7_refusalOfItem_25 : decode cX7_refusalOfItem 25 = .ok (.invokevirtual 192, 3) := by decide +kernel
theorem dX7_refusalOfItem_28 : decode cX7_refusalOfItem 28 = .ok (.ifCond .eq 9, 3) := by decide +kernel
theorem dX7_refusalOfItem_31 : decode cX7_refusalOfItem 31 = .ok (.aload_n 0, 1) := by decide +kernel
theorem dX7_refusalOfItem_32 : decode cX7_refusalOfItem 32 = .ok (.iconst 1, 1) := by decide +kernel
theorem dX7_refusalOfItem_33 : decode cX7_refusalOfItem 33 = .ok (.invokevirtual 195, 3) := by decide +kernel
theorem dX7_refusalOfItem_36 : decode cX7_refusalOfItem 36 = .ok (.ireturn, 1) := by decide +kernel
theorem dX7_refusalOfItem_37 : decode cX7_refusalOfItem 37 = .ok (.aload_n 0, 1) := by decide +kernel
theorem dX7_refusalOfItem_38 : decode cX7_refusalOfItem 38 = .ok (.getfield 54, 3) := by decide +kernel
theorem dX7_refusalOfItem_41 : decode cX7_refusalOfItem 41 = .ok (.iload_n 1, 1) := by decide +kernel
theorem dX7_refusalOfItem_42 : decode cX7_refusalOfItem 42 = .ok (.aaload, 1) := by decide +kernel
theorem dX7_refusalOfItem_43 : decode cX7_refusalOfItem 43 = .ok (.getfield 255, 3) := by decide +kernel
theorem dX7_refusalOfItem_46 : decode cX7_refusalOfItem 46 = .ok (.iload_n 2, 1) := by decide +kernel
theorem dX7_refusalOfItem_47 : decode cX7_refusalOfItem 47 = .ok (.if_icmp .eq 9, 3) := by decide +kernel
theorem dX7_refusalOfItem_50 : decode cX7_refusalOfItem 50 = .ok (.aload_n 0, 1) := by decide +kernel
theorem dX7_refusalOfItem_51 : decode cX7_refusalOfItem 51 = .ok (.iconst 3, 1) := by decide +kernel
theorem dX7_refusalOfItem_52 : decode cX7_refusalOfItem 52 = .ok (.invokevirtual 195, 3) := by decide +kernel
theorem dX7_refusalOfItem_55 : decode cX7_refusalOfItem 55 = .ok (.ireturn, 1) := by decide +kernel
theorem dX7_refusalOfItem_56 : decode cX7_refusalOfItem 56 = .ok (.aload_n 0, 1) := by decide +kernel
theorem dX7_refusalOfItem_57 : decode cX7_refusalOfItem 57 = .ok (.getfield 54, 3) := by decide +kernel
theorem dX7_refusalOfItem_60 : decode cX7_refusalOfItem 60 = .ok (.iload_n 1, 1) := by decide +kernel
theorem dX7_refusalOfItem_61 : decode cX7_refusalOfItem 61 = .ok (.aaload, 1) := by decide +kernel
theorem dX7_refusalOfItem_62 : decode cX7_refusalOfItem 62 = .ok (.iload_n 3, 1) := by decide +kernel
theorem dX7_refusalOfItem_63 : decode cX7_refusalOfItem 63 = .ok (.iconst 1, 1) := by decide +kernel
theorem dX7_refusalOfItem_64 : decode cX7_refusalOfItem 64 = .ok (.invokevirtual 258, 3) := by decide +kernel
theorem dX7_refusalOfItem_67 : decode cX7_refusalOfItem 67 = .ok (.ifCond .eq 7, 3) := by decide +kernel
theorem dX7_refusalOfItem_70 : decode cX7_refusalOfItem 70 = .ok (.iconst 0, 1) := by decide +kernel
theorem dX7_refusalOfItem_71 : decode cX7_refusalOfItem 71 = .ok (.goto 8, 3) := by decide +kernel
theorem dX7_refusalOfItem_74 : decode cX7_refusalOfItem 74 = .ok (.aload_n 0, 1) := by decide +kernel
theorem dX7_refusalOfItem_75 : decode cX7_refusalOfItem 75 = .ok (.iconst 2, 1) := by decide +kernel
theorem dX7_refusalOfItem_76 : decode cX7_refusalOfItem 76 = .ok (.invokevirtual 195, 3) := by decide +kernel
theorem dX7_refusalOfItem_79 : decode cX7_refusalOfItem 79 = .ok (.ireturn, 1) := by decide +kernel
