theorem dX0_init_0 : decode cX0_init 0 = .ok (.aload_n 0, 1) := by decide +kernel
theorem dX0_init_1 : decode cX0_init 1 = .ok (.invokespecial 3, 3) := by decide +kernel
theorem dX0_init_4 : decode cX0_init 4 = .ok (.aload_n 0, 1) := by decide +kernel
theorem dX0_init_5 : decode cX0_init 5 = .ok (.bipush 29, 2) := by decide +kernel
theorem dX0_init_7 : decode cX0_init 7 = .ok (.newarray .int, 2) := by decide +kernel
theorem dX0_init_9 : decode cX0_init 9 = .ok (.putfield 9, 3) := by decide +kernel
theorem dX0_init_12 : decode cX0_init 12 = .ok (.return_, 1) := by decide +kernel
theorem dX0_become_0 : decode cX0_become 0 = .ok (.aload_n 1, 1) := by decide +kernel
theorem dX0_become_1 : decode cX0_become 1 = .ok (.getfield 9, 3) := by decide +kernel
theorem dX0_become_4 : decode cX0_become 4 = .ok (.iconst 0, 1) := by decide +kernel
theorem dX0_become_5 : decode cX0_become 5 = .ok (.aload_n 0, 1) := by decide +kernel
theorem dX0_become_6 : decode cX0_become 6 = .ok (.getfield 9, 3) := by decide +kernel
theorem dX0_become_9 : decode cX0_become 9 = .ok (.iconst 0, 1) := by decide +kernel
theorem dX0_become_10 : decode cX0_become 10 = .ok (.aload_n 1, 1) := by decide +kernel
theorem dX0_become_11 : decode cX0_become 11 = .ok (.getfield 15, 3) := by decide +kernel
theorem dX0_become_14 : decode cX0_become 14 = .ok (.invokestatic 19, 3) := by decide +kernel
theorem dX0_become_17 : decode cX0_become 17 = .ok (.aload_n 0, 1) := by decide +kernel
theorem dX0_become_18 : decode cX0_become 18 = .ok (.aload_n 1, 1) := by decide +kernel
theorem dX0_become_19 : decode cX0_become 19 = .ok (.getfield 15, 3) := by decide +kernel
theorem dX0_become_22 : decode cX0_become 22 = .ok (.putfield 15, 3) := by decide +kernel
theorem dX0_become_25 : decode cX0_become 25 = .ok (.return_, 1) := by decide +kernel
theorem dX0_putAtBottom_0 : decode cX0_putAtBottom 0 = .ok (.aload_n 0, 1) := by decide +kernel
theorem dX0_putAtBottom_1 : decode cX0_putAtBottom 1 = .ok (.getfield 15, 3) := by decide +kernel
theorem dX0_putAtBottom_4 : decode cX0_putAtBottom 4 = .ok (.aload_n 0, 1) := by decide +kernel
theorem dX0_putAtBottom_5 : decode cX0_putAtBottom 5 = .ok (.getfield 9, 3) := by decide +kernel
theorem dX0_putAtBottom_8 : decode cX0_putAtBottom 8 = .ok (.arraylength, 1) := by decide +kernel
theorem dX0_putAtBottom_9 : decode cX0_putAtBottom 9 = .ok (.if_icmp .ge 23, 3) := by decide +kernel
theorem dX0_putAtBottom_12 : decode cX0_putAtBottom 12 = .ok (.aload_n 0, 1) := by decide +kernel
theorem dX0_putAtBottom_13 : decode cX0_putAtBottom 13 = .ok (.getfield 9, 3) := by decide +kernel
theorem dX0_putAtBottom_16 : decode cX0_putAtBottom 16 = .ok (.aload_n 0, 1) := by decide +kernel
theorem dX0_putAtBottom_17 : decode cX0_putAtBottom 17 = .ok (.getfield 15, 3) := by decide +kernel
theorem dX0_putAtBottom_20 : decode cX0_putAtBottom 20 = .ok (.iload_n 1, 1) := by decide +kernel
theorem dX0_putAtBottom_21 : decode cX0_putAtBottom 21 = .ok (.iastore, 1) := by decide +kernel
theorem dX0_putAtBottom_22 : decode cX0_putAtBottom 22 = .ok (.aload_n 0, 1) := by decide +kernel
theorem dX0_putAtBottom_23 : decode cX0_putAtBottom 23 = .ok (.dup, 1) := by decide +kernel
theorem dX0_putAtBottom_24 : decode cX0_putAtBottom 24 = .ok (.getfield 15, 3) := by decide +kernel
theorem dX0_putAtBottom_27 : decode cX0_putAtBottom 27 = .ok (.iconst 1, 1) := by decide +kernel
theorem dX0_putAtBottom_28 : decode cX0_putAtBottom 28 = .ok (.iadd, 1) := by decide +kernel
theorem dX0_putAtBottom_29 : decode cX0_putAtBottom 29 = .ok (.putfield 15, 3) := by decide +kernel
theorem dX0_putAtBottom_32 : decode cX0_putAtBottom 32 = .ok (.return_, 1) := by decide +kernel
theorem dX0_putOnTop_0 : decode cX0_putOnTop 0 = .ok (.aload_n 0, 1) := by decide +kernel
theorem dX0_putOnTop_1 : decode cX0_putOnTop 1 = .ok (.getfield 15, 3) := by decide +kernel
theorem dX0_putOnTop_4 : decode cX0_putOnTop 4 = .ok (.aload_n 0, 1) := by decide +kernel
theorem dX0_putOnTop_5 : decode cX0_putOnTop 5 = .ok (.getfield 9, 3) := by decide +kernel
theorem dX0_putOnTop_8 : decode cX0_putOnTop 8 = .ok (.arraylength, 1) := by decide +kernel
theorem dX0_putOnTop_9 : decode cX0_putOnTop 9 = .ok (.if_icmp .ge 37, 3) := by decide +kernel
theorem dX0_putOnTop_12 : decode cX0_putOnTop 12 = .ok (.aload_n 0, 1) := by decide +kernel
theorem dX0_putOnTop_13 : decode cX0_putOnTop 13 = .ok (.getfield 9, 3) := by decide +kernel
theorem dX0_putOnTop_16 : decode cX0_putOnTop 16 = .ok (.iconst 0, 1) := by decide +kernel
theorem dX0_putOnTop_17 : decode cX0_putOnTop 17 = .ok (.aload_n 0, 1) := by decide +kernel
theorem dX0_putOnTop_18 : decode cX0_putOnTop 18 = .ok (.getfield 9, 3) := by decide +kernel
theorem dX0_putOnTop_21 : decode cX0_putOnTop 21 = .ok (.iconst 1, 1) := by decide +kernel
theorem dX0_putOnTop_22 : decode cX0_putOnTop 22 = .ok (.aload_n 0, 1) := by decide +kernel
theorem dX0_putOnTop_23 : decode cX0_putOnTop 23 = .ok (.getfield 15, 3) := by decide +kernel
theorem dX0_putOnTop_26 : decode cX0_putOnTop 26 = .ok (.invokestatic 19, 3) := by decide +kernel
theorem dX0_putOnTop_29 : decode cX0_putOnTop 29 = .ok (.aload_n 0, 1) := by decide +kernel
theorem dX0_putOnTop_30 : decode cX0_putOnTop 30 = .ok (.getfield 9, 3) := by decide +kernel
theorem dX0_putOnTop_33 : decode cX0_putOnTop 33 = .ok (.iconst 0, 1) := by decide +kernel
theorem dX0_putOnTop_34 : decode cX0_putOnTop 34 = .ok (.iload_n 1, 1) := by decide +kernel
theorem dX0_putOnTop_35 : decode cX0_putOnTop 35 = .ok (.iastore, 1) := by decide +kernel
theorem dX0_putOnTop_36 : decode cX0_putOnTop 36 = .ok (.aload_n 0, 1) := by decide +kernel
theorem dX0_putOnTop_37 : decode cX0_putOnTop 37 = .ok (.dup, 1) := by decide +kernel
theorem dX0_putOnTop_38 : decode cX0_putOnTop 38 = .ok (.getfield 15, 3) := by decide +kernel
theorem dX0_putOnTop_41 : decode cX0_putOnTop 41 = .ok (.iconst 1, 1) := by decide +kernel
theorem dX0_putOnTop_42 : decode cX0_putOnTop 42 = .ok (.iadd, 1) := by decide +kernel
theorem dX0_putOnTop_43 : decode cX0_putOnTop 43 = .ok (.putfield 15, 3) := by decide +kernel
theorem dX0_putOnTop_46 : decode cX0_putOnTop 46 = .ok (.return_, 1) := by decide +kernel
theorem dX0_placeOf_0 : decode cX0_placeOf 0 = .ok (.iconst 0, 1) := by decide +kernel
theorem dX0_placeOf_1 : decode cX0_placeOf 1 = .ok (.istore_n 2, 1) := by decide +kernel
theorem dX0_placeOf_2 : decode cX0_placeOf 2 = .ok (.iload_n 2, 1) := by decide +kernel
theorem dX0_placeOf_3 : decode cX0_placeOf 3 = .ok (.aload_n 0, 1) := by decide +kernel
theorem dX0_placeOf_4 : decode cX0_placeOf 4 = .ok (.getfield 15, 3) := by decide +kernel
theorem dX0_placeOf_7 : decode cX0_placeOf 7 = .ok (.if_icmp .ge 21, 3) := by decide +kernel
theorem dX0_placeOf_10 : decode cX0_placeOf 10 = .ok (.aload_n 0, 1) := by decide +kernel
theorem dX0_placeOf_11 : decode cX0_placeOf 11 = .ok (.getfield 9, 3) := by decide +kernel
theorem dX0_placeOf_14 : decode cX0_placeOf 14 = .ok (.iload_n 2, 1) := by decide +kernel
theorem dX0_placeOf_15 : decode cX0_placeOf 15 = .ok (.iaload, 1) := by decide +kernel
theorem dX0_placeOf_16 : decode cX0_placeOf 16 = .ok (.iload_n 1, 1) := by decide +kernel
theorem dX0_placeOf_17 : decode cX0_placeOf 17 = .ok (.if_icmp .ne 5, 3) := by decide +kernel
theorem dX0_placeOf_20 : decode cX0_placeOf 20 = .ok (.iload_n 2, 1) := by decide +kernel
theorem dX0_placeOf_21 : decode cX0_placeOf 21 = .ok (.ireturn, 1) := by decide +kernel
theorem dX0_placeOf_22 : decode cX0_placeOf 22 = .ok (.iinc 2 1, 3) := by decide +kernel
theorem dX0_placeOf_25 : decode cX0_placeOf 25 = .ok (.goto (-23), 3) := by decide +kernel
theorem dX0_placeOf_28 : decode cX0_placeOf 28 = .ok (.iconst (-1), 1) := by decide +kernel
theorem dX0_placeOf_29 : decode cX0_placeOf 29 = .ok (.ireturn, 1) := by decide +kernel
theorem dX0_takeOut_0 : decode cX0_takeOut 0 = .ok (.iload_n 1, 1) := by decide +kernel
theorem dX0_takeOut_1 : decode cX0_takeOut 1 = .ok (.ifCond .lt 51, 3) := by decide +kernel
theorem dX0_takeOut_4 : decode cX0_takeOut 4 = .ok (.iload_n 1, 1) := by decide +kernel
theorem dX0_takeOut_5 : decode cX0_takeOut 5 = .ok (.aload_n 0, 1) := by decide +kernel
theorem dX0_takeOut_6 : decode cX0_takeOut 6 = .ok (.getfield 15, 3) := by decide +kernel
theorem dX0_takeOut_9 : decode cX0_takeOut 9 = .ok (.if_icmp .ge 43, 3) := by decide +kernel
theorem dX0_takeOut_12 : decode cX0_takeOut 12 = .ok (.aload_n 0, 1) := by decide +kernel
theorem dX0_takeOut_13 : decode cX0_takeOut 13 = .ok (.dup, 1) := by decide +kernel
theorem dX0_takeOut_14 : decode cX0_takeOut 14 = .ok (.getfield 15, 3) := by decide +kernel
theorem dX0_takeOut_17 : decode cX0_takeOut 17 = .ok (.iconst 1, 1) := by decide +kernel
theorem dX0_takeOut_18 : decode cX0_takeOut 18 = .ok (.isub, 1) := by decide +kernel
theorem dX0_takeOut_19 : decode cX0_takeOut 19 = .ok (.putfield 15, 3) := by decide +kernel
theorem dX0_takeOut_22 : decode cX0_takeOut 22 = .ok (.iload_n 1, 1) := by decide +kernel
theorem dX0_takeOut_23 : decode cX0_takeOut 23 = .ok (.istore_n 2, 1) := by decide +kernel
theorem dX0_takeOut_24 : decode cX0_takeOut 24 = .ok (.iload_n 2, 1) := by decide +kernel
theorem dX0_takeOut_25 : decode cX0_takeOut 25 = .ok (.aload_n 0, 1) := by decide +kernel
theorem dX0_takeOut_26 : decode cX0_takeOut 26 = .ok (.getfield 15, 3) := by decide +kernel
theorem dX0_takeOut_29 : decode cX0_takeOut 29 = .ok (.if_icmp .ge 23, 3) := by decide +kernel
theorem dX0_takeOut_32 : decode cX0_takeOut 32 = .ok (.aload_n 0, 1) := by decide +kernel
theorem dX0_takeOut_33 : decode cX0_takeOut 33 = .ok (.getfield 9, 3) := by decide +kernel
theorem dX0_takeOut_36 : decode cX0_takeOut 36 = .ok (.iload_n 2, 1) := by decide +kernel
theorem dX0_takeOut_37 : decode cX0_takeOut 37 = .ok (.aload_n 0, 1) := by decide +kernel
theorem dX0_takeOut_38 : decode cX0_takeOut 38 = .ok (.getfield 9, 3) := by decide +kernel
theorem dX0_takeOut_41 : decode cX0_takeOut 41 = .ok (.iload_n 2, 1) := by decide +kernel
theorem dX0_takeOut_42 : decode cX0_takeOut 42 = .ok (.iconst 1, 1) := by decide +kernel
theorem dX0_takeOut_43 : decode cX0_takeOut 43 = .ok (.iadd, 1) := by decide +kernel
theorem dX0_takeOut_44 : decode cX0_takeOut 44 = .ok (.iaload, 1) := by decide +kernel
theorem dX0_takeOut_45 : decode cX0_takeOut 45 = .ok (.iastore, 1) := by decide +kernel
theorem dX0_takeOut_46 : decode cX0_takeOut 46 = .ok (.iinc 2 1, 3) := by decide +kernel
theorem dX0_takeOut_49 : decode cX0_takeOut 49 = .ok (.goto (-25), 3) := by decide +kernel
theorem dX0_takeOut_52 : decode cX0_takeOut 52 = .ok (.return_, 1) := by decide +kernel
theorem dX1_init_0 : decode cX1_init 0 = .ok (.aload_n 0, 1) := by decide +kernel
theorem dX1_init_1 : decode cX1_init 1 = .ok (.invokespecial 3, 3) := by decide +kernel
theorem dX1_init_4 : decode cX1_init 4 = .ok (.aload_n 0, 1) := by decide +kernel
theorem dX1_init_5 : decode cX1_init 5 = .ok (.bipush 8, 2) := by decide +kernel
theorem dX1_init_7 : decode cX1_init 7 = .ok (.newarray .int, 2) := by decide +kernel
theorem dX1_init_9 : decode cX1_init 9 = .ok (.putfield 9, 3) := by decide +kernel
theorem dX1_init_12 : decode cX1_init 12 = .ok (.aload_n 0, 1) := by decide +kernel
theorem dX1_init_13 : decode cX1_init 13 = .ok (.new 15, 3) := by decide +kernel
theorem dX1_init_16 : decode cX1_init 16 = .ok (.dup, 1) := by decide +kernel
theorem dX1_init_17 : decode cX1_init 17 = .ok (.invokespecial 17, 3) := by decide +kernel
theorem dX1_init_20 : decode cX1_init 20 = .ok (.putfield 18, 3) := by decide +kernel
theorem dX1_init_23 : decode cX1_init 23 = .ok (.aload_n 0, 1) := by decide +kernel
theorem dX1_init_24 : decode cX1_init 24 = .ok (.bipush 10, 2) := by decide +kernel
theorem dX1_init_26 : decode cX1_init 26 = .ok (.bipush 8, 2) := by decide +kernel
theorem dX1_init_28 : decode cX1_init 28 = .ok (.multianewarray 22 2, 4) := by decide +kernel
theorem dX1_init_32 : decode cX1_init 32 = .ok (.putfield 24, 3) := by decide +kernel
theorem dX1_init_35 : decode cX1_init 35 = .ok (.aload_n 0, 1) := by decide +kernel
theorem dX1_init_36 : decode cX1_init 36 = .ok (.bipush 10, 2) := by decide +kernel
theorem dX1_init_38 : decode cX1_init 38 = .ok (.newarray .int, 2) := by decide +kernel
theorem dX1_init_40 : decode cX1_init 40 = .ok (.putfield 27, 3) := by decide +kernel
theorem dX1_init_43 : decode cX1_init 43 = .ok (.aload_n 0, 1) := by decide +kernel
theorem dX1_init_44 : decode cX1_init 44 = .ok (.bipush 10, 2) := by decide +kernel
theorem dX1_init_46 : decode cX1_init 46 = .ok (.newarray .int, 2) := by decide +kernel
theorem dX1_init_48 : decode cX1_init 48 = .ok (.putfield 30, 3) := by decide +kernel
theorem dX1_init_51 : decode cX1_init 51 = .ok (.aload_n 0, 1) := by decide +kernel
theorem dX1_init_52 : decode cX1_init 52 = .ok (.bipush 10, 2) := by decide +kernel
theorem dX1_init_54 : decode cX1_init 54 = .ok (.anewarray 15, 3) := by decide +kernel
theorem dX1_init_57 : decode cX1_init 57 = .ok (.putfield 33, 3) := by decide +kernel
theorem dX1_init_60 : decode cX1_init 60 = .ok (.aload_n 0, 1) := by decide +kernel
theorem dX1_init_61 : decode cX1_init 61 = .ok (.aload_n 1, 1) := by decide +kernel
theorem dX1_init_62 : decode cX1_init 62 = .ok (.putfield 37, 3) := by decide +kernel
theorem dX1_init_65 : decode cX1_init 65 = .ok (.iconst 0, 1) := by decide +kernel
theorem dX1_init_66 : decode cX1_init 66 = .ok (.istore_n 2, 1) := by decide +kernel
theorem dX1_init_67 : decode cX1_init 67 = .ok (.iload_n 2, 1) := by decide +kernel
theorem dX1_init_68 : decode cX1_init 68 = .ok (.bipush 10, 2) := by decide +kernel
theorem dX1_init_70 : decode cX1_init 70 = .ok (.if_icmp .ge 22, 3) := by decide +kernel
theorem dX1_init_73 : decode cX1_init 73 = .ok (.aload_n 0, 1) := by decide +kernel
theorem dX1_init_74 : decode cX1_init 74 = .ok (.getfield 33, 3) := by decide +kernel
theorem dX1_init_77 : decode cX1_init 77 = .ok (.iload_n 2, 1) := by decide +kernel
theorem dX1_init_78 : decode cX1_init 78 = .ok (.new 15, 3) := by decide +kernel
theorem dX1_init_81 : decode cX1_init 81 = .ok (.dup, 1) := by decide +kernel
theorem dX1_init_82 : decode cX1_init 82 = .ok (.invokespecial 17, 3) := by decide +kernel
theorem dX1_init_85 : decode cX1_init 85 = .ok (.aastore, 1) := by decide +kernel
theorem dX1_init_86 : decode cX1_init 86 = .ok (.iinc 2 1, 3) := by decide +kernel
theorem dX1_init_89 : decode cX1_init 89 = .ok (.goto (-22), 3) := by decide +kernel
theorem dX1_init_92 : decode cX1_init 92 = .ok (.return_, 1) := by decide +kernel
theorem dX1_begin_0 : decode cX1_begin 0 = .ok (.aload_n 0, 1) := by decide +kernel
theorem dX1_begin_1 : decode cX1_begin 1 = .ok (.aload_n 0, 1) := by decide +kernel
theorem dX1_begin_2 : decode cX1_begin 2 = .ok (.getfield 37, 3) := by decide +kernel
theorem dX1_begin_5 : decode cX1_begin 5 = .ok (.getfield 41, 3) := by decide +kernel
theorem dX1_begin_8 : decode cX1_begin 8 = .ok (.putfield 47, 3) := by decide +kernel
theorem dX1_begin_11 : decode cX1_begin 11 = .ok (.aload_n 0, 1) := by decide +kernel
theorem dX1_begin_12 : decode cX1_begin 12 = .ok (.aload_n 0, 1) := by decide +kernel
theorem dX1_begin_13 : decode cX1_begin 13 = .ok (.getfield 37, 3) := by decide +kernel
theorem dX1_begin_16 : decode cX1_begin 16 = .ok (.getfield 48, 3) := by decide +kernel
theorem dX1_begin_19 : decode cX1_begin 19 = .ok (.putfield 51, 3) := by decide +kernel
theorem dX1_begin_22 : decode cX1_begin 22 = .ok (.aload_n 0, 1) := by decide +kernel
theorem dX1_begin_23 : decode cX1_begin 23 = .ok (.getfield 37, 3) := by decide +kernel
theorem dX1_begin_26 : decode cX1_begin 26 = .ok (.getfield 52, 3) := by decide +kernel
theorem dX1_begin_29 : decode cX1_begin 29 = .ok (.iconst 0, 1) := by decide +kernel
theorem dX1_begin_30 : decode cX1_begin 30 = .ok (.aload_n 0, 1) := by decide +kernel
theorem dX1_begin_31 : decode cX1_begin 31 = .ok (.getfield 9, 3) := by decide +kernel
theorem dX1_begin_34 : decode cX1_begin 34 = .ok (.iconst 0, 1) := by decide +kernel
theorem dX1_begin_35 : decode cX1_begin 35 = .ok (.bipush 8, 2) := by decide +kernel
theorem dX1_begin_37 : decode cX1_begin 37 = .ok (.invokestatic 55, 3) := by decide +kernel
theorem dX1_begin_40 : decode cX1_begin 40 = .ok (.aload_n 0, 1) := by decide +kernel
theorem dX1_begin_41 : decode cX1_begin 41 = .ok (.getfield 18, 3) := by decide +kernel
theorem dX1_begin_44 : decode cX1_begin 44 = .ok (.aload_n 0, 1) := by decide +kernel
theorem dX1_begin_45 : decode cX1_begin 45 = .ok (.getfield 37, 3) := by decide +kernel
theorem dX1_begin_48 : decode cX1_begin 48 = .ok (.getfield 61, 3) := by decide +kernel
theorem dX1_begin_51 : decode cX1_begin 51 = .ok (.invokevirtual 62, 3) := by decide +kernel
theorem dX1_begin_54 : decode cX1_begin 54 = .ok (.return_, 1) := by decide +kernel
theorem dX1_go_0 : decode cX1_go 0 = .ok (.aload_n 0, 1) := by decide +kernel
theorem dX1_go_1 : decode cX1_go 1 = .ok (.iconst 0, 1) := by decide +kernel
theorem dX1_go_2 : decode cX1_go 2 = .ok (.putfield 66, 3) := by decide +kernel
theorem dX1_go_5 : decode cX1_go 5 = .ok (.aload_n 0, 1) := by decide +kernel
theorem dX1_go_6 : decode cX1_go 6 = .ok (.iconst 0, 1) := by decide +kernel
theorem dX1_go_7 : decode cX1_go 7 = .ok (.putfield 69, 3) := by decide +kernel
theorem dX1_go_10 : decode cX1_go 10 = .ok (.aload_n 0, 1) := by decide +kernel
theorem dX1_go_11 : decode cX1_go 11 = .ok (.iconst (-1), 1) := by decide +kernel
theorem dX1_go_12 : decode cX1_go 12 = .ok (.putfield 72, 3) := by decide +kernel
theorem dX1_go_15 : decode cX1_go 15 = .ok (.aload_n 0, 1) := by decide +kernel
theorem dX1_go_16 : decode cX1_go 16 = .ok (.iconst (-1), 1) := by decide +kernel
theorem dX1_go_17 : decode cX1_go 17 = .ok (.putfield 75, 3) := by decide +kernel
theorem dX1_go_20 : decode cX1_go 20 = .ok (.aload_n 0, 1) := by decide +kernel
theorem dX1_go_21 : decode cX1_go 21 = .ok (.iconst (-1), 1) := by decide +kernel
theorem dX1_go_22 : decode cX1_go 22 = .ok (.putfield 78, 3) := by decide +kernel
theorem dX1_go_25 : decode cX1_go 25 = .ok (.aload_n 0, 1) := by decide +kernel
theorem dX1_go_26 : decode cX1_go 26 = .ok (.iconst (-1), 1) := by decide +kernel
theorem dX1_go_27 : decode cX1_go 27 = .ok (.putfield 81, 3) := by decide +kernel
theorem dX1_go_30 : decode cX1_go 30 = .ok (.iconst 0, 1) := by decide +kernel
theorem dX1_go_31 : decode cX1_go 31 = .ok (.istore_n 1, 1) := by decide +kernel
theorem dX1_go_32 : decode cX1_go 32 = .ok (.iconst 0, 1) := by decide +kernel
theorem dX1_go_33 : decode cX1_go 33 = .ok (.istore_n 2, 1) := by decide +kernel
theorem dX1_go_34 : decode cX1_go 34 = .ok (.iload_n 2, 1) := by decide +kernel
theorem dX1_go_35 : decode cX1_go 35 = .ok (.bipush 10, 2) := by decide +kernel
theorem dX1_go_37 : decode cX1_go 37 = .ok (.if_icmp .ge 114, 3) := by decide +kernel
theorem dX1_go_40 : decode cX1_go 40 = .ok (.iload_n 1, 1) := by decide +kernel
theorem dX1_go_41 : decode cX1_go 41 = .ok (.ifCond .ne 110, 3) := by decide +kernel
theorem dX1_go_44 : decode cX1_go 44 = .ok (.aload_n 0, 1) := by decide +kernel
theorem dX1_go_45 : decode cX1_go 45 = .ok (.getfield 69, 3) := by decide +kernel
theorem dX1_go_48 : decode cX1_go 48 = .ok (.istore_n 3, 1) := by decide +kernel
theorem dX1_go_49 : decode cX1_go 49 = .ok (.iconst 0, 1) := by decide +kernel
theorem dX1_go_50 : decode cX1_go 50 = .ok (.istore 4, 2) := by decide +kernel
theorem dX1_go_52 : decode cX1_go 52 = .ok (.iconst 0, 1) := by decide +kernel
theorem dX1_go_53 : decode cX1_go 53 = .ok (.istore 5, 2) := by decide +kernel
theorem dX1_go_55 : decode cX1_go 55 = .ok (.iload 5, 2) := by decide +kernel
theorem dX1_go_57 : decode cX1_go 57 = .ok (.bipush 10, 2) := by decide +kernel
theorem dX1_go_59 : decode cX1_go 59 = .ok (.if_icmp .ge 41, 3) := by decide +kernel
theorem dX1_go_62 : decode cX1_go 62 = .ok (.aload_n 0, 1) := by decide +kernel
theorem dX1_go_63 : decode cX1_go 63 = .ok (.iload 5, 2) := by decide +kernel
theorem dX1_go_65 : decode cX1_go 65 = .ok (.invokevirtual 84, 3) := by decide +kernel
theorem dX1_go_68 : decode cX1_go 68 = .ok (.ifCond .eq 6, 3) := by decide +kernel
theorem dX1_go_71 : decode cX1_go 71 = .ok (.iconst 1, 1) := by decide +kernel
theorem dX1_go_72 : decode cX1_go 72 = .ok (.istore 4, 2) := by decide +kernel
theorem dX1_go_74 : decode cX1_go 74 = .ok (.aload_n 0, 1) := by decide +kernel
theorem dX1_go_75 : decode cX1_go 75 = .ok (.getfield 51, 3) := by decide +kernel
theorem dX1_go_78 : decode cX1_go 78 = .ok (.iload 5, 2) := by decide +kernel
theorem dX1_go_80 : decode cX1_go 80 = .ok (.ishr, 1) := by decide +kernel
theorem dX1_go_81 : decode cX1_go 81 = .ok (.iconst 1, 1) := by decide +kernel
theorem dX1_go_82 : decode cX1_go 82 = .ok (.iand, 1) := by decide +kernel
theorem dX1_go_83 : decode cX1_go 83 = .ok (.iconst 1, 1) := by decide +kernel
theorem dX1_go_84 : decode cX1_go 84 = .ok (.if_icmp .ne 10, 3) := by decide +kernel
theorem dX1_go_87 : decode cX1_go 87 = .ok (.aload_n 0, 1) := by decide +kernel
theorem dX1_go_88 : decode cX1_go 88 = .ok (.iload_n 2, 1) := by decide +kernel
theorem dX1_go_89 : decode cX1_go 89 = .ok (.iload 5, 2) := by decide +kernel
theorem dX1_go_91 : decode cX1_go 91 = .ok (.invokevirtual 88, 3) := by decide +kernel
theorem dX1_go_94 : decode cX1_go 94 = .ok (.iinc 5 1, 3) := by decide +kernel
theorem dX1_go_97 : decode cX1_go 97 = .ok (.goto (-42), 3) := by decide +kernel
theorem dX1_go_100 : decode cX1_go 100 = .ok (.aload_n 0, 1) := by decide +kernel
theorem dX1_go_101 : decode cX1_go 101 = .ok (.iload_n 2, 1) := by decide +kernel
theorem dX1_go_102 : decode cX1_go 102 = .ok (.invokevirtual 92, 3) := by decide +kernel
theorem dX1_go_105 : decode cX1_go 105 = .ok (.aload_n 0, 1) := by decide +kernel
theorem dX1_go_106 : decode cX1_go 106 = .ok (.getfield 69, 3) := by decide +kernel
theorem dX1_go_109 : decode cX1_go 109 = .ok (.iload_n 3, 1) := by decide +kernel
theorem dX1_go_110 : decode cX1_go 110 = .ok (.if_icmp .ne 16, 3) := by decide +kernel
theorem dX1_go_113 : decode cX1_go 113 = .ok (.aload_n 0, 1) := by decide +kernel
theorem dX1_go_114 : decode cX1_go 114 = .ok (.getfield 81, 3) := by decide +kernel
theorem dX1_go_117 : decode cX1_go 117 = .ok (.iconst (-1), 1) := by decide +kernel
theorem dX1_go_118 : decode cX1_go 118 = .ok (.if_icmp .ne 8, 3) := by decide +kernel
theorem dX1_go_121 : decode cX1_go 121 = .ok (.aload_n 0, 1) := by decide +kernel
theorem dX1_go_122 : decode cX1_go 122 = .ok (.iload_n 2, 1) := by decide +kernel
theorem dX1_go_123 : decode cX1_go 123 = .ok (.putfield 81, 3) := by decide +kernel
theorem dX1_go_126 : decode cX1_go 126 = .ok (.aload_n 0, 1) := by decide +kernel
theorem dX1_go_127 : decode cX1_go 127 = .ok (.getfield 69, 3) := by decide +kernel
theorem dX1_go_130 : decode cX1_go 130 = .ok (.iload_n 3, 1) := by decide +kernel
theorem dX1_go_131 : decode cX1_go 131 = .ok (.if_icmp .ne 12, 3) := by decide +kernel
theorem dX1_go_134 : decode cX1_go 134 = .ok (.iload 4, 2) := by decide +kernel
theorem dX1_go_136 : decode cX1_go 136 = .ok (.ifCond .ne 7, 3) := by decide +kernel
theorem dX1_go_139 : decode cX1_go 139 = .ok (.iconst 1, 1) := by decide +kernel
theorem dX1_go_140 : decode cX1_go 140 = .ok (.goto 4, 3) := by decide +kernel
theorem dX1_go_143 : decode cX1_go 143 = .ok (.iconst 0, 1) := by decide +kernel
theorem dX1_go_144 : decode cX1_go 144 = .ok (.istore_n 1, 1) := by decide +kernel
theorem dX1_go_145 : decode cX1_go 145 = .ok (.iinc 2 1, 3) := by decide +kernel
theorem dX1_go_148 : decode cX1_go 148 = .ok (.goto (-114), 3) := by decide +kernel
theorem dX1_go_151 : decode cX1_go 151 = .ok (.return_, 1) := by decide +kernel
theorem dX1_leaveAt_0 : decode cX1_leaveAt 0 = .ok (.iconst 0, 1) := by decide +kernel
theorem dX1_leaveAt_1 : decode cX1_leaveAt 1 = .ok (.istore_n 2, 1) := by decide +kernel
theorem dX1_leaveAt_2 : decode cX1_leaveAt 2 = .ok (.aload_n 0, 1) := by decide +kernel
theorem dX1_leaveAt_3 : decode cX1_leaveAt 3 = .ok (.getfield 37, 3) := by decide +kernel
theorem dX1_leaveAt_6 : decode cX1_leaveAt 6 = .ok (.getfield 96, 3) := by decide +kernel
theorem dX1_leaveAt_9 : decode cX1_leaveAt 9 = .ok (.iload_n 1, 1) := by decide +kernel
theorem dX1_leaveAt_10 : decode cX1_leaveAt 10 = .ok (.iaload, 1) := by decide +kernel
theorem dX1_leaveAt_11 : decode cX1_leaveAt 11 = .ok (.aload_n 0, 1) := by decide +kernel
theorem dX1_leaveAt_12 : decode cX1_leaveAt 12 = .ok (.getfield 37, 3) := by decide +kernel
theorem dX1_leaveAt_15 : decode cX1_leaveAt 15 = .ok (.getfield 99, 3) := by decide +kernel
theorem dX1_leaveAt_18 : decode cX1_leaveAt 18 = .ok (.iand, 1) := by decide +kernel
theorem dX1_leaveAt_19 : decode cX1_leaveAt 19 = .ok (.istore_n 3, 1) := by decide +kernel
theorem dX1_leaveAt_20 : decode cX1_leaveAt 20 = .ok (.iconst 0, 1) := by decide +kernel
theorem dX1_leaveAt_21 : decode cX1_leaveAt 21 = .ok (.istore 4, 2) := by decide +kernel
theorem dX1_leaveAt_23 : decode cX1_leaveAt 23 = .ok (.iload 4, 2) := by decide +kernel
theorem dX1_leaveAt_25 : decode cX1_leaveAt 25 = .ok (.aload_n 0, 1) := by decide +kernel
theorem dX1_leaveAt_26 : decode cX1_leaveAt 26 = .ok (.getfield 37, 3) := by decide +kernel
theorem dX1_leaveAt_29 : decode cX1_leaveAt 29 = .ok (.getfield 102, 3) := by decide +kernel
theorem dX1_leaveAt_32 : decode cX1_leaveAt 32 = .ok (.if_icmp .ge 73, 3) := by decide +kernel
theorem dX1_leaveAt_35 : decode cX1_leaveAt 35 = .ok (.iload_n 3, 1) := by decide +kernel
theorem dX1_leaveAt_36 : decode cX1_leaveAt 36 = .ok (.ifCond .eq 69, 3) := by decide +kernel
theorem dX1_leaveAt_39 : decode cX1_leaveAt 39 = .ok (.iload_n 3, 1) := by decide +kernel
theorem dX1_leaveAt_40 : decode cX1_leaveAt 40 = .ok (.iload 4, 2) := by decide +kernel
theorem dX1_leaveAt_42 : decode cX1_leaveAt 42 = .ok (.ishr, 1) := by decide +kernel
theorem dX1_leaveAt_43 : decode cX1_leaveAt 43 = .ok (.iconst 1, 1) := by decide +kernel
theorem dX1_leaveAt_44 : decode cX1_leaveAt 44 = .ok (.iand, 1) := by decide +kernel
theorem dX1_leaveAt_45 : decode cX1_leaveAt 45 = .ok (.iconst 1, 1) := by decide +kernel
theorem dX1_leaveAt_46 : decode cX1_leaveAt 46 = .ok (.if_icmp .ne 53, 3) := by decide +kernel
theorem dX1_leaveAt_49 : decode cX1_leaveAt 49 = .ok (.aload_n 0, 1) := by decide +kernel
theorem dX1_leaveAt_50 : decode cX1_leaveAt 50 = .ok (.getfield 9, 3) := by decide +kernel
theorem dX1_leaveAt_53 : decode cX1_leaveAt 53 = .ok (.iload 4, 2) := by decide +kernel
theorem dX1_leaveAt_55 : decode cX1_leaveAt 55 = .ok (.iaload, 1) := by decide +kernel
theorem dX1_leaveAt_56 : decode cX1_leaveAt 56 = .ok (.iconst (-1), 1) := by decide +kernel
theorem dX1_leaveAt_57 : decode cX1_leaveAt 57 = .ok (.if_icmp .eq 42, 3) := by decide +kernel
theorem dX1_leaveAt_60 : decode cX1_leaveAt 60 = .ok (.aload_n 0, 1) := by decide +kernel
theorem dX1_leaveAt_61 : decode cX1_leaveAt 61 = .ok (.getfield 18, 3) := by decide +kernel
theorem dX1_leaveAt_64 : decode cX1_leaveAt 64 = .ok (.aload_n 0, 1) := by decide +kernel
theorem dX1_leaveAt_65 : decode cX1_leaveAt 65 = .ok (.getfield 9, 3) := by decide +kernel
theorem dX1_leaveAt_68 : decode cX1_leaveAt 68 = .ok (.iload 4, 2) := by decide +kernel
theorem dX1_leaveAt_70 : decode cX1_leaveAt 70 = .ok (.iaload, 1) := by decide +kernel
theorem dX1_leaveAt_71 : decode cX1_leaveAt 71 = .ok (.invokevirtual 105, 3) := by decide +kernel
theorem dX1_leaveAt_74 : decode cX1_leaveAt 74 = .ok (.aload_n 0, 1) := by decide +kernel
theorem dX1_leaveAt_75 : decode cX1_leaveAt 75 = .ok (.getfield 9, 3) := by decide +kernel
theorem dX1_leaveAt_78 : decode cX1_leaveAt 78 = .ok (.iload 4, 2) := by decide +kernel
theorem dX1_leaveAt_80 : decode cX1_leaveAt 80 = .ok (.iconst (-1), 1) := by decide +kernel
theorem dX1_leaveAt_81 : decode cX1_leaveAt 81 = .ok (.iastore, 1) := by decide +kernel
theorem dX1_leaveAt_82 : decode cX1_leaveAt 82 = .ok (.aload_n 0, 1) := by decide +kernel
theorem dX1_leaveAt_83 : decode cX1_leaveAt 83 = .ok (.dup, 1) := by decide +kernel
theorem dX1_leaveAt_84 : decode cX1_leaveAt 84 = .ok (.getfield 66, 3) := by decide +kernel
theorem dX1_leaveAt_87 : decode cX1_leaveAt 87 = .ok (.iconst 1, 1) := by decide +kernel
theorem dX1_leaveAt_88 : decode cX1_leaveAt 88 = .ok (.iload 4, 2) := by decide +kernel
theorem dX1_leaveAt_90 : decode cX1_leaveAt 90 = .ok (.ishl, 1) := by decide +kernel
theorem dX1_leaveAt_91 : decode cX1_leaveAt 91 = .ok (.iconst (-1), 1) := by decide +kernel
theorem dX1_leaveAt_92 : decode cX1_leaveAt 92 = .ok (.ixor, 1) := by decide +kernel
theorem dX1_leaveAt_93 : decode cX1_leaveAt 93 = .ok (.iand, 1) := by decide +kernel
theorem dX1_leaveAt_94 : decode cX1_leaveAt 94 = .ok (.putfield 66, 3) := by decide +kernel
theorem dX1_leaveAt_97 : decode cX1_leaveAt 97 = .ok (.iconst 1, 1) := by decide +kernel
theorem dX1_leaveAt_98 : decode cX1_leaveAt 98 = .ok (.istore_n 2, 1) := by decide +kernel
theorem dX1_leaveAt_99 : decode cX1_leaveAt 99 = .ok (.iinc 4 1, 3) := by decide +kernel
theorem dX1_leaveAt_102 : decode cX1_leaveAt 102 = .ok (.goto (-79), 3) := by decide +kernel
theorem dX1_leaveAt_105 : decode cX1_leaveAt 105 = .ok (.iload_n 2, 1) := by decide +kernel
theorem dX1_leaveAt_106 : decode cX1_leaveAt 106 = .ok (.ireturn, 1) := by decide +kernel
theorem dX1_changeAt_0 : decode cX1_changeAt 0 = .ok (.aload_n 0, 1) := by decide +kernel
theorem dX1_changeAt_1 : decode cX1_changeAt 1 = .ok (.getfield 37, 3) := by decide +kernel
theorem dX1_changeAt_4 : decode cX1_changeAt 4 = .ok (.getfield 108, 3) := by decide +kernel
theorem dX1_changeAt_7 : decode cX1_changeAt 7 = .ok (.iload_n 2, 1) := by decide +kernel
theorem dX1_changeAt_8 : decode cX1_changeAt 8 = .ok (.iaload, 1) := by decide +kernel
theorem dX1_changeAt_9 : decode cX1_changeAt 9 = .ok (.istore_n 3, 1) := by decide +kernel
theorem dX1_changeAt_10 : decode cX1_changeAt 10 = .ok (.iconst 0, 1) := by decide +kernel
theorem dX1_changeAt_11 : decode cX1_changeAt 11 = .ok (.istore 4, 2) := by decide +kernel
theorem dX1_changeAt_13 : decode cX1_changeAt 13 = .ok (.iload 4, 2) := by decide +kernel
theorem dX1_changeAt_15 : decode cX1_changeAt 15 = .ok (.aload_n 0, 1) := by decide +kernel
theorem dX1_changeAt_16 : decode cX1_changeAt 16 = .ok (.getfield 37, 3) := by decide +kernel
theorem dX1_changeAt_19 : decode cX1_changeAt 19 = .ok (.getfield 102, 3) := by decide +kernel
theorem dX1_changeAt_22 : decode cX1_changeAt 22 = .ok (.if_icmp .ge 95, 3) := by decide +kernel
theorem dX1_changeAt_25 : decode cX1_changeAt 25 = .ok (.iload_n 3, 1) := by decide +kernel
theorem dX1_changeAt_26 : decode cX1_changeAt 26 = .ok (.iload 4, 2) := by decide +kernel
theorem dX1_changeAt_28 : decode cX1_changeAt 28 = .ok (.ishr, 1) := by decide +kernel
theorem dX1_changeAt_29 : decode cX1_changeAt 29 = .ok (.iconst 1, 1) := by decide +kernel
theorem dX1_changeAt_30 : decode cX1_changeAt 30 = .ok (.iand, 1) := by decide +kernel
theorem dX1_changeAt_31 : decode cX1_changeAt 31 = .ok (.iconst 1, 1) := by decide +kernel
theorem dX1_changeAt_32 : decode cX1_changeAt 32 = .ok (.if_icmp .ne 79, 3) := by decide +kernel
theorem dX1_changeAt_35 : decode cX1_changeAt 35 = .ok (.aload_n 0, 1) := by decide +kernel
theorem dX1_changeAt_36 : decode cX1_changeAt 36 = .ok (.getfield 37, 3) := by decide +kernel
theorem dX1_changeAt_39 : decode cX1_changeAt 39 = .ok (.iload 4, 2) := by decide +kernel
theorem dX1_changeAt_41 : decode cX1_changeAt 41 = .ok (.aload_n 0, 1) := by decide +kernel
theorem dX1_changeAt_42 : decode cX1_changeAt 42 = .ok (.getfield 9, 3) := by decide +kernel
theorem dX1_changeAt_45 : decode cX1_changeAt 45 = .ok (.iload 4, 2) := by decide +kernel
theorem dX1_changeAt_47 : decode cX1_changeAt 47 = .ok (.iaload, 1) := by decide +kernel
theorem dX1_changeAt_48 : decode cX1_changeAt 48 = .ok (.aload_n 0, 1) := by decide +kernel
theorem dX1_changeAt_49 : decode cX1_changeAt 49 = .ok (.getfield 47, 3) := by decide +kernel
theorem dX1_changeAt_52 : decode cX1_changeAt 52 = .ok (.invokevirtual 111, 3) := by decide +kernel
theorem dX1_changeAt_55 : decode cX1_changeAt 55 = .ok (.ifCond .eq 56, 3) := by decide +kernel
theorem dX1_changeAt_58 : decode cX1_changeAt 58 = .ok (.aload_n 0, 1) := by decide +kernel
theorem dX1_changeAt_59 : decode cX1_changeAt 59 = .ok (.iload 4, 2) := by decide +kernel
theorem dX1_changeAt_61 : decode cX1_changeAt 61 = .ok (.invokevirtual 115, 3) := by decide +kernel
theorem dX1_changeAt_64 : decode cX1_changeAt 64 = .ok (.ifCond .ne 13, 3) := by decide +kernel
theorem dX1_changeAt_67 : decode cX1_changeAt 67 = .ok (.aload_n 0, 1) := by decide +kernel
theorem dX1_changeAt_68 : decode cX1_changeAt 68 = .ok (.iload 4, 2) := by decide +kernel
theorem dX1_changeAt_70 : decode cX1_changeAt 70 = .ok (.iload_n 3, 1) := by decide +kernel
theorem dX1_changeAt_71 : decode cX1_changeAt 71 = .ok (.invokevirtual 118, 3) := by decide +kernel
theorem dX1_changeAt_74 : decode cX1_changeAt 74 = .ok (.ifCond .eq 37, 3) := by decide +kernel
theorem dX1_changeAt_77 : decode cX1_changeAt 77 = .ok (.aload_n 0, 1) := by decide +kernel
theorem dX1_changeAt_78 : decode cX1_changeAt 78 = .ok (.dup, 1) := by decide +kernel
theorem dX1_changeAt_79 : decode cX1_changeAt 79 = .ok (.getfield 69, 3) := by decide +kernel
theorem dX1_changeAt_82 : decode cX1_changeAt 82 = .ok (.iconst 1, 1) := by decide +kernel
theorem dX1_changeAt_83 : decode cX1_changeAt 83 = .ok (.iadd, 1) := by decide +kernel
theorem dX1_changeAt_84 : decode cX1_changeAt 84 = .ok (.putfield 69, 3) := by decide +kernel
theorem dX1_changeAt_87 : decode cX1_changeAt 87 = .ok (.aload_n 0, 1) := by decide +kernel
theorem dX1_changeAt_88 : decode cX1_changeAt 88 = .ok (.getfield 72, 3) := by decide +kernel
theorem dX1_changeAt_91 : decode cX1_changeAt 91 = .ok (.iconst (-1), 1) := by decide +kernel
theorem dX1_changeAt_92 : decode cX1_changeAt 92 = .ok (.if_icmp .ne 19, 3) := by decide +kernel
theorem dX1_changeAt_95 : decode cX1_changeAt 95 = .ok (.aload_n 0, 1) := by decide +kernel
theorem dX1_changeAt_96 : decode cX1_changeAt 96 = .ok (.iload_n 1, 1) := by decide +kernel
theorem dX1_changeAt_97 : decode cX1_changeAt 97 = .ok (.putfield 72, 3) := by decide +kernel
theorem dX1_changeAt_100 : decode cX1_changeAt 100 = .ok (.aload_n 0, 1) := by decide +kernel
theorem dX1_changeAt_101 : decode cX1_changeAt 101 = .ok (.iload_n 2, 1) := by decide +kernel
theorem dX1_changeAt_102 : decode cX1_changeAt 102 = .ok (.putfield 75, 3) := by decide +kernel
theorem dX1_changeAt_105 : decode cX1_changeAt 105 = .ok (.aload_n 0, 1) := by decide +kernel
theorem dX1_changeAt_106 : decode cX1_changeAt 106 = .ok (.iload 4, 2) := by decide +kernel
theorem dX1_changeAt_108 : decode cX1_changeAt 108 = .ok (.putfield 78, 3) := by decide +kernel
theorem dX1_changeAt_111 : decode cX1_changeAt 111 = .ok (.iinc 4 1, 3) := by decide +kernel
theorem dX1_changeAt_114 : decode cX1_changeAt 114 = .ok (.goto (-101), 3) := by decide +kernel
theorem dX1_changeAt_117 : decode cX1_changeAt 117 = .ok (.return_, 1) := by decide +kernel
theorem dX1_takeWhole_0 : decode cX1_takeWhole 0 = .ok (.aload_n 0, 1) := by decide +kernel
theorem dX1_takeWhole_1 : decode cX1_takeWhole 1 = .ok (.getfield 18, 3) := by decide +kernel
theorem dX1_takeWhole_4 : decode cX1_takeWhole 4 = .ok (.aload_n 0, 1) := by decide +kernel
theorem dX1_takeWhole_5 : decode cX1_takeWhole 5 = .ok (.getfield 37, 3) := by decide +kernel
theorem dX1_takeWhole_8 : decode cX1_takeWhole 8 = .ok (.getfield 122, 3) := by decide +kernel
theorem dX1_takeWhole_11 : decode cX1_takeWhole 11 = .ok (.iload_n 1, 1) := by decide +kernel
theorem dX1_takeWhole_12 : decode cX1_takeWhole 12 = .ok (.iaload, 1) := by decide +kernel
theorem dX1_takeWhole_13 : decode cX1_takeWhole 13 = .ok (.invokevirtual 125, 3) := by decide +kernel
theorem dX1_takeWhole_16 : decode cX1_takeWhole 16 = .ok (.istore_n 2, 1) := by decide +kernel
theorem dX1_takeWhole_17 : decode cX1_takeWhole 17 = .ok (.iload_n 2, 1) := by decide +kernel
theorem dX1_takeWhole_18 : decode cX1_takeWhole 18 = .ok (.iconst (-1), 1) := by decide +kernel
theorem dX1_takeWhole_19 : decode cX1_takeWhole 19 = .ok (.if_icmp .ne 5, 3) := by decide +kernel
theorem dX1_takeWhole_22 : decode cX1_takeWhole 22 = .ok (.iconst 0, 1) := by decide +kernel
theorem dX1_takeWhole_23 : decode cX1_takeWhole 23 = .ok (.ireturn, 1) := by decide +kernel
theorem dX1_takeWhole_24 : decode cX1_takeWhole 24 = .ok (.aload_n 0, 1) := by decide +kernel
theorem dX1_takeWhole_25 : decode cX1_takeWhole 25 = .ok (.getfield 18, 3) := by decide +kernel
theorem dX1_takeWhole_28 : decode cX1_takeWhole 28 = .ok (.iload_n 2, 1) := by decide +kernel
theorem dX1_takeWhole_29 : decode cX1_takeWhole 29 = .ok (.invokevirtual 129, 3) := by decide +kernel
theorem dX1_takeWhole_32 : decode cX1_takeWhole 32 = .ok (.aload_n 0, 1) := by decide +kernel
theorem dX1_takeWhole_33 : decode cX1_takeWhole 33 = .ok (.getfield 18, 3) := by decide +kernel
theorem dX1_takeWhole_36 : decode cX1_takeWhole 36 = .ok (.aload_n 0, 1) := by decide +kernel
theorem dX1_takeWhole_37 : decode cX1_takeWhole 37 = .ok (.getfield 9, 3) := by decide +kernel
theorem dX1_takeWhole_40 : decode cX1_takeWhole 40 = .ok (.iload_n 1, 1) := by decide +kernel
theorem dX1_takeWhole_41 : decode cX1_takeWhole 41 = .ok (.iaload, 1) := by decide +kernel
theorem dX1_takeWhole_42 : decode cX1_takeWhole 42 = .ok (.invokevirtual 105, 3) := by decide +kernel
theorem dX1_takeWhole_45 : decode cX1_takeWhole 45 = .ok (.aload_n 0, 1) := by decide +kernel
theorem dX1_takeWhole_46 : decode cX1_takeWhole 46 = .ok (.getfield 9, 3) := by decide +kernel
theorem dX1_takeWhole_49 : decode cX1_takeWhole 49 = .ok (.iload_n 1, 1) := by decide +kernel
theorem dX1_takeWhole_50 : decode cX1_takeWhole 50 = .ok (.aload_n 0, 1) := by decide +kernel
theorem dX1_takeWhole_51 : decode cX1_takeWhole 51 = .ok (.getfield 37, 3) := by decide +kernel
theorem dX1_takeWhole_54 : decode cX1_takeWhole 54 = .ok (.getfield 122, 3) := by decide +kernel
theorem dX1_takeWhole_57 : decode cX1_takeWhole 57 = .ok (.iload_n 1, 1) := by decide +kernel
theorem dX1_takeWhole_58 : decode cX1_takeWhole 58 = .ok (.iaload, 1) := by decide +kernel
theorem dX1_takeWhole_59 : decode cX1_takeWhole 59 = .ok (.iastore, 1) := by decide +kernel
theorem dX1_takeWhole_60 : decode cX1_takeWhole 60 = .ok (.iconst 1, 1) := by decide +kernel
theorem dX1_takeWhole_61 : decode cX1_takeWhole 61 = .ok (.ireturn, 1) := by decide +kernel
theorem dX1_takeTorn_0 : decode cX1_takeTorn 0 = .ok (.aload_n 0, 1) := by decide +kernel
theorem dX1_takeTorn_1 : decode cX1_takeTorn 1 = .ok (.getfield 18, 3) := by decide +kernel
theorem dX1_takeTorn_4 : decode cX1_takeTorn 4 = .ok (.aload_n 0, 1) := by decide +kernel
theorem dX1_takeTorn_5 : decode cX1_takeTorn 5 = .ok (.getfield 37, 3) := by decide +kernel
theorem dX1_takeTorn_8 : decode cX1_takeTorn 8 = .ok (.getfield 122, 3) := by decide +kernel
theorem dX1_takeTorn_11 : decode cX1_takeTorn 11 = .ok (.iload_n 1, 1) := by decide +kernel
theorem dX1_takeTorn_12 : decode cX1_takeTorn 12 = .ok (.iaload, 1) := by decide +kernel
theorem dX1_takeTorn_13 : decode cX1_takeTorn 13 = .ok (.bipush 8, 2) := by decide +kernel
theorem dX1_takeTorn_15 : decode cX1_takeTorn 15 = .ok (.iadd, 1) := by decide +kernel
theorem dX1_takeTorn_16 : decode cX1_takeTorn 16 = .ok (.invokevirtual 125, 3) := by decide +kernel
theorem dX1_takeTorn_19 : decode cX1_takeTorn 19 = .ok (.istore_n 3, 1) := by decide +kernel
theorem dX1_takeTorn_20 : decode cX1_takeTorn 20 = .ok (.iload_n 3, 1) := by decide +kernel
theorem dX1_takeTorn_21 : decode cX1_takeTorn 21 = .ok (.iconst (-1), 1) := by decide +kernel
theorem dX1_takeTorn_22 : decode cX1_takeTorn 22 = .ok (.if_icmp .ne 5, 3) := by decide +kernel
theorem dX1_takeTorn_25 : decode cX1_takeTorn 25 = .ok (.iconst 0, 1) := by decide +kernel
theorem dX1_takeTorn_26 : decode cX1_takeTorn 26 = .ok (.ireturn, 1) := by decide +kernel
theorem dX1_takeTorn_27 : decode cX1_takeTorn 27 = .ok (.iconst 0, 1) := by decide +kernel
theorem dX1_takeTorn_28 : decode cX1_takeTorn 28 = .ok (.istore 4, 2) := by decide +kernel
theorem dX1_takeTorn_30 : decode cX1_takeTorn 30 = .ok (.iload 4, 2) := by decide +kernel
theorem dX1_takeTorn_32 : decode cX1_takeTorn 32 = .ok (.aload_n 0, 1) := by decide +kernel
theorem dX1_takeTorn_33 : decode cX1_takeTorn 33 = .ok (.getfield 37, 3) := by decide +kernel
theorem dX1_takeTorn_36 : decode cX1_takeTorn 36 = .ok (.getfield 102, 3) := by decide +kernel
theorem dX1_takeTorn_39 : decode cX1_takeTorn 39 = .ok (.if_icmp .ge 155, 3) := by decide +kernel
theorem dX1_takeTorn_42 : decode cX1_takeTorn 42 = .ok (.iload 4, 2) := by decide +kernel
theorem dX1_takeTorn_44 : decode cX1_takeTorn 44 = .ok (.iload_n 1, 1) := by decide +kernel
theorem dX1_takeTorn_45 : decode cX1_takeTorn 45 = .ok (.if_icmp .eq 143, 3) := by decide +kernel
theorem dX1_takeTorn_48 : decode cX1_takeTorn 48 = .ok (.iload_n 2, 1) := by decide +kernel
theorem dX1_takeTorn_49 : decode cX1_takeTorn 49 = .ok (.iload 4, 2) := by decide +kernel
theorem dX1_takeTorn_51 : decode cX1_takeTorn 51 = .ok (.ishr, 1) := by decide +kernel
theorem dX1_takeTorn_52 : decode cX1_takeTorn 52 = .ok (.iconst 1, 1) := by decide +kernel
theorem dX1_takeTorn_53 : decode cX1_takeTorn 53 = .ok (.iand, 1) := by decide +kernel
theorem dX1_takeTorn_54 : decode cX1_takeTorn 54 = .ok (.iconst 1, 1) := by decide +kernel
theorem dX1_takeTorn_55 : decode cX1_takeTorn 55 = .ok (.if_icmp .ne 133, 3) := by decide +kernel
theorem dX1_takeTorn_58 : decode cX1_takeTorn 58 = .ok (.aload_n 0, 1) := by decide +kernel
theorem dX1_takeTorn_59 : decode cX1_takeTorn 59 = .ok (.getfield 37, 3) := by decide +kernel
theorem dX1_takeTorn_62 : decode cX1_takeTorn 62 = .ok (.getfield 122, 3) := by decide +kernel
theorem dX1_takeTorn_65 : decode cX1_takeTorn 65 = .ok (.iload 4, 2) := by decide +kernel
theorem dX1_takeTorn_67 : decode cX1_takeTorn 67 = .ok (.iaload, 1) := by decide +kernel
theorem dX1_takeTorn_68 : decode cX1_takeTorn 68 = .ok (.aload_n 0, 1) := by decide +kernel
theorem dX1_takeTorn_69 : decode cX1_takeTorn 69 = .ok (.getfield 37, 3) := by decide +kernel
theorem dX1_takeTorn_72 : decode cX1_takeTorn 72 = .ok (.getfield 122, 3) := by decide +kernel
theorem dX1_takeTorn_75 : decode cX1_takeTorn 75 = .ok (.iload_n 1, 1) := by decide +kernel
theorem dX1_takeTorn_76 : decode cX1_takeTorn 76 = .ok (.iaload, 1) := by decide +kernel
theorem dX1_takeTorn_77 : decode cX1_takeTorn 77 = .ok (.if_icmp .ne 111, 3) := by decide +kernel
theorem dX1_takeTorn_80 : decode cX1_takeTorn 80 = .ok (.aload_n 0, 1) := by decide +kernel
theorem dX1_takeTorn_81 : decode cX1_takeTorn 81 = .ok (.getfield 37, 3) := by decide +kernel
theorem dX1_takeTorn_84 : decode cX1_takeTorn 84 = .ok (.iload 4, 2) := by decide +kernel
theorem dX1_takeTorn_86 : decode cX1_takeTorn 86 = .ok (.aload_n 0, 1) := by decide +kernel
theorem dX1_takeTorn_87 : decode cX1_takeTorn 87 = .ok (.getfield 9, 3) := by decide +kernel
theorem dX1_takeTorn_90 : decode cX1_takeTorn 90 = .ok (.iload 4, 2) := by decide +kernel
theorem dX1_takeTorn_92 : decode cX1_takeTorn 92 = .ok (.iaload, 1) := by decide +kernel
theorem dX1_takeTorn_93 : decode cX1_takeTorn 93 = .ok (.aload_n 0, 1) := by decide +kernel
theorem dX1_takeTorn_94 : decode cX1_takeTorn 94 = .ok (.getfield 47, 3) := by decide +kernel
theorem dX1_takeTorn_97 : decode cX1_takeTorn 97 = .ok (.invokevirtual 111, 3) := by decide +kernel
theorem dX1_takeTorn_100 : decode cX1_takeTorn 100 = .ok (.ifCond .eq 88, 3) := by decide +kernel
theorem dX1_takeTorn_103 : decode cX1_takeTorn 103 = .ok (.aload_n 0, 1) := by decide +kernel
theorem dX1_takeTorn_104 : decode cX1_takeTorn 104 = .ok (.getfield 18, 3) := by decide +kernel
theorem dX1_takeTorn_107 : decode cX1_takeTorn 107 = .ok (.iload_n 3, 1) := by decide +kernel
theorem dX1_takeTorn_108 : decode cX1_takeTorn 108 = .ok (.invokevirtual 129, 3) := by decide +kernel
theorem dX1_takeTorn_111 : decode cX1_takeTorn 111 = .ok (.aload_n 0, 1) := by decide +kernel
theorem dX1_takeTorn_112 : decode cX1_takeTorn 112 = .ok (.getfield 18, 3) := by decide +kernel
theorem dX1_takeTorn_115 : decode cX1_takeTorn 115 = .ok (.aload_n 0, 1) := by decide +kernel
theorem dX1_takeTorn_116 : decode cX1_takeTorn 116 = .ok (.getfield 9, 3) := by decide +kernel
theorem dX1_takeTorn_119 : decode cX1_takeTorn 119 = .ok (.iload_n 1, 1) := by decide +kernel
theorem dX1_takeTorn_120 : decode cX1_takeTorn 120 = .ok (.iaload, 1) := by decide +kernel
theorem dX1_takeTorn_121 : decode cX1_takeTorn 121 = .ok (.invokevirtual 105, 3) := by decide +kernel
theorem dX1_takeTorn_124 : decode cX1_takeTorn 124 = .ok (.aload_n 0, 1) := by decide +kernel
theorem dX1_takeTorn_125 : decode cX1_takeTorn 125 = .ok (.getfield 18, 3) := by decide +kernel
theorem dX1_takeTorn_128 : decode cX1_takeTorn 128 = .ok (.aload_n 0, 1) := by decide +kernel
theorem dX1_takeTorn_129 : decode cX1_takeTorn 129 = .ok (.getfield 9, 3) := by decide +kernel
theorem dX1_takeTorn_132 : decode cX1_takeTorn 132 = .ok (.iload 4, 2) := by decide +kernel
theorem dX1_takeTorn_134 : decode cX1_takeTorn 134 = .ok (.iaload, 1) := by decide +kernel
theorem dX1_takeTorn_135 : decode cX1_takeTorn 135 = .ok (.invokevirtual 105, 3) := by decide +kernel
theorem dX1_takeTorn_138 : decode cX1_takeTorn 138 = .ok (.aload_n 0, 1) := by decide +kernel
theorem dX1_takeTorn_139 : decode cX1_takeTorn 139 = .ok (.getfield 9, 3) := by decide +kernel
theorem dX1_takeTorn_142 : decode cX1_takeTorn 142 = .ok (.iload_n 1, 1) := by decide +kernel
theorem dX1_takeTorn_143 : decode cX1_takeTorn 143 = .ok (.aload_n 0, 1) := by decide +kernel
theorem dX1_takeTorn_144 : decode cX1_takeTorn 144 = .ok (.getfield 37, 3) := by decide +kernel
theorem dX1_takeTorn_147 : decode cX1_takeTorn 147 = .ok (.getfield 122, 3) := by decide +kernel
theorem dX1_takeTorn_150 : decode cX1_takeTorn 150 = .ok (.iload_n 1, 1) := by decide +kernel
theorem dX1_takeTorn_151 : decode cX1_takeTorn 151 = .ok (.iaload, 1) := by decide +kernel
theorem dX1_takeTorn_152 : decode cX1_takeTorn 152 = .ok (.iastore, 1) := by decide +kernel
theorem dX1_takeTorn_153 : decode cX1_takeTorn 153 = .ok (.aload_n 0, 1) := by decide +kernel
theorem dX1_takeTorn_154 : decode cX1_takeTorn 154 = .ok (.getfield 9, 3) := by decide +kernel
theorem dX1_takeTorn_157 : decode cX1_takeTorn 157 = .ok (.iload 4, 2) := by decide +kernel
theorem dX1_takeTorn_159 : decode cX1_takeTorn 159 = .ok (.aload_n 0, 1) := by decide +kernel
theorem dX1_takeTorn_160 : decode cX1_takeTorn 160 = .ok (.getfield 37, 3) := by decide +kernel
theorem dX1_takeTorn_163 : decode cX1_takeTorn 163 = .ok (.getfield 122, 3) := by decide +kernel
theorem dX1_takeTorn_166 : decode cX1_takeTorn 166 = .ok (.iload_n 1, 1) := by decide +kernel
theorem dX1_takeTorn_167 : decode cX1_takeTorn 167 = .ok (.iaload, 1) := by decide +kernel
theorem dX1_takeTorn_168 : decode cX1_takeTorn 168 = .ok (.iastore, 1) := by decide +kernel
theorem dX1_takeTorn_169 : decode cX1_takeTorn 169 = .ok (.aload_n 0, 1) := by decide +kernel
theorem dX1_takeTorn_170 : decode cX1_takeTorn 170 = .ok (.dup, 1) := by decide +kernel
theorem dX1_takeTorn_171 : decode cX1_takeTorn 171 = .ok (.getfield 66, 3) := by decide +kernel
theorem dX1_takeTorn_174 : decode cX1_takeTorn 174 = .ok (.iconst 1, 1) := by decide +kernel
theorem dX1_takeTorn_175 : decode cX1_takeTorn 175 = .ok (.iload_n 1, 1) := by decide +kernel
theorem dX1_takeTorn_176 : decode cX1_takeTorn 176 = .ok (.ishl, 1) := by decide +kernel
theorem dX1_takeTorn_177 : decode cX1_takeTorn 177 = .ok (.iconst 1, 1) := by decide +kernel
theorem dX1_takeTorn_178 : decode cX1_takeTorn 178 = .ok (.iload 4, 2) := by decide +kernel
theorem dX1_takeTorn_180 : decode cX1_takeTorn 180 = .ok (.ishl, 1) := by decide +kernel
theorem dX1_takeTorn_181 : decode cX1_takeTorn 181 = .ok (.ior, 1) := by decide +kernel
theorem dX1_takeTorn_182 : decode cX1_takeTorn 182 = .ok (.ior, 1) := by decide +kernel
theorem dX1_takeTorn_183 : decode cX1_takeTorn 183 = .ok (.putfield 66, 3) := by decide +kernel
theorem dX1_takeTorn_186 : decode cX1_takeTorn 186 = .ok (.iconst 1, 1) := by decide +kernel
theorem dX1_takeTorn_187 : decode cX1_takeTorn 187 = .ok (.ireturn, 1) := by decide +kernel
theorem dX1_takeTorn_188 : decode cX1_takeTorn 188 = .ok (.iinc 4 1, 3) := by decide +kernel
theorem dX1_takeTorn_191 : decode cX1_takeTorn 191 = .ok (.goto (-161), 3) := by decide +kernel
theorem dX1_takeTorn_194 : decode cX1_takeTorn 194 = .ok (.iconst 0, 1) := by decide +kernel
theorem dX1_takeTorn_195 : decode cX1_takeTorn 195 = .ok (.ireturn, 1) := by decide +kernel
theorem dX1_keep_0 : decode cX1_keep 0 = .ok (.aload_n 0, 1) := by decide +kernel
theorem dX1_keep_1 : decode cX1_keep 1 = .ok (.iload_n 1, 1) := by decide +kernel
theorem dX1_keep_2 : decode cX1_keep 2 = .ok (.putfield 132, 3) := by decide +kernel
theorem dX1_keep_5 : decode cX1_keep 5 = .ok (.aload_n 0, 1) := by decide +kernel
theorem dX1_keep_6 : decode cX1_keep 6 = .ok (.getfield 9, 3) := by decide +kernel
theorem dX1_keep_9 : decode cX1_keep 9 = .ok (.iconst 0, 1) := by decide +kernel
theorem dX1_keep_10 : decode cX1_keep 10 = .ok (.aload_n 0, 1) := by decide +kernel
theorem dX1_keep_11 : decode cX1_keep 11 = .ok (.getfield 24, 3) := by decide +kernel
theorem dX1_keep_14 : decode cX1_keep 14 = .ok (.iload_n 1, 1) := by decide +kernel
theorem dX1_keep_15 : decode cX1_keep 15 = .ok (.aaload, 1) := by decide +kernel
theorem dX1_keep_16 : decode cX1_keep 16 = .ok (.iconst 0, 1) := by decide +kernel
theorem dX1_keep_17 : decode cX1_keep 17 = .ok (.bipush 8, 2) := by decide +kernel
theorem dX1_keep_19 : decode cX1_keep 19 = .ok (.invokestatic 55, 3) := by decide +kernel
theorem dX1_keep_22 : decode cX1_keep 22 = .ok (.aload_n 0, 1) := by decide +kernel
theorem dX1_keep_23 : decode cX1_keep 23 = .ok (.getfield 27, 3) := by decide +kernel
theorem dX1_keep_26 : decode cX1_keep 26 = .ok (.iload_n 1, 1) := by decide +kernel
theorem dX1_keep_27 : decode cX1_keep 27 = .ok (.aload_n 0, 1) := by decide +kernel
theorem dX1_keep_28 : decode cX1_keep 28 = .ok (.getfield 66, 3) := by decide +kernel
theorem dX1_keep_31 : decode cX1_keep 31 = .ok (.iastore, 1) := by decide +kernel
theorem dX1_keep_32 : decode cX1_keep 32 = .ok (.aload_n 0, 1) := by decide +kernel
theorem dX1_keep_33 : decode cX1_keep 33 = .ok (.getfield 33, 3) := by decide +kernel
theorem dX1_keep_36 : decode cX1_keep 36 = .ok (.iload_n 1, 1) := by decide +kernel
theorem dX1_keep_37 : decode cX1_keep 37 = .ok (.aaload, 1) := by decide +kernel
theorem dX1_keep_38 : decode cX1_keep 38 = .ok (.aload_n 0, 1) := by decide +kernel
theorem dX1_keep_39 : decode cX1_keep 39 = .ok (.getfield 18, 3) := by decide +kernel
theorem dX1_keep_42 : decode cX1_keep 42 = .ok (.invokevirtual 62, 3) := by decide +kernel
theorem dX1_keep_45 : decode cX1_keep 45 = .ok (.aload_n 0, 1) := by decide +kernel
theorem dX1_keep_46 : decode cX1_keep 46 = .ok (.getfield 30, 3) := by decide +kernel
theorem dX1_keep_49 : decode cX1_keep 49 = .ok (.iload_n 1, 1) := by decide +kernel
theorem dX1_keep_50 : decode cX1_keep 50 = .ok (.iconst 0, 1) := by decide +kernel
theorem dX1_keep_51 : decode cX1_keep 51 = .ok (.iastore, 1) := by decide +kernel
theorem dX1_keep_52 : decode cX1_keep 52 = .ok (.iconst 0, 1) := by decide +kernel
theorem dX1_keep_53 : decode cX1_keep 53 = .ok (.istore_n 2, 1) := by decide +kernel
theorem dX1_keep_54 : decode cX1_keep 54 = .ok (.iload_n 2, 1) := by decide +kernel
theorem dX1_keep_55 : decode cX1_keep 55 = .ok (.aload_n 0, 1) := by decide +kernel
theorem dX1_keep_56 : decode cX1_keep 56 = .ok (.getfield 37, 3) := by decide +kernel
theorem dX1_keep_59 : decode cX1_keep 59 = .ok (.getfield 102, 3) := by decide +kernel
theorem dX1_keep_62 : decode cX1_keep 62 = .ok (.if_icmp .ge 39, 3) := by decide +kernel
theorem dX1_keep_65 : decode cX1_keep 65 = .ok (.aload_n 0, 1) := by decide +kernel
theorem dX1_keep_66 : decode cX1_keep 66 = .ok (.getfield 9, 3) := by decide +kernel
theorem dX1_keep_69 : decode cX1_keep 69 = .ok (.iload_n 2, 1) := by decide +kernel
theorem dX1_keep_70 : decode cX1_keep 70 = .ok (.iaload, 1) := by decide +kernel
theorem dX1_keep_71 : decode cX1_keep 71 = .ok (.aload_n 0, 1) := by decide +kernel
theorem dX1_keep_72 : decode cX1_keep 72 = .ok (.getfield 37, 3) := by decide +kernel
theorem dX1_keep_75 : decode cX1_keep 75 = .ok (.getfield 122, 3) := by decide +kernel
theorem dX1_keep_78 : decode cX1_keep 78 = .ok (.iload_n 2, 1) := by decide +kernel
theorem dX1_keep_79 : decode cX1_keep 79 = .ok (.iaload, 1) := by decide +kernel
theorem dX1_keep_80 : decode cX1_keep 80 = .ok (.if_icmp .ne 15, 3) := by decide +kernel
theorem dX1_keep_83 : decode cX1_keep 83 = .ok (.aload_n 0, 1) := by decide +kernel
theorem dX1_keep_84 : decode cX1_keep 84 = .ok (.getfield 30, 3) := by decide +kernel
theorem dX1_keep_87 : decode cX1_keep 87 = .ok (.iload_n 1, 1) := by decide +kernel
theorem dX1_keep_88 : decode cX1_keep 88 = .ok (.dup2, 1) := by decide +kernel
theorem dX1_keep_89 : decode cX1_keep 89 = .ok (.iaload, 1) := by decide +kernel
theorem dX1_keep_90 : decode cX1_keep 90 = .ok (.iconst 1, 1) := by decide +kernel
theorem dX1_keep_91 : decode cX1_keep 91 = .ok (.iload_n 2, 1) := by decide +kernel
theorem dX1_keep_92 : decode cX1_keep 92 = .ok (.ishl, 1) := by decide +kernel
theorem dX1_keep_93 : decode cX1_keep 93 = .ok (.ior, 1) := by decide +kernel
theorem dX1_keep_94 : decode cX1_keep 94 = .ok (.iastore, 1) := by decide +kernel
theorem dX1_keep_95 : decode cX1_keep 95 = .ok (.iinc 2 1, 3) := by decide +kernel
theorem dX1_keep_98 : decode cX1_keep 98 = .ok (.goto (-44), 3) := by decide +kernel
theorem dX1_keep_101 : decode cX1_keep 101 = .ok (.return_, 1) := by decide +kernel
theorem dX1_hasOn_0 : decode cX1_hasOn 0 = .ok (.aload_n 0, 1) := by decide +kernel
theorem dX1_hasOn_1 : decode cX1_hasOn 1 = .ok (.getfield 24, 3) := by decide +kernel
theorem dX1_hasOn_4 : decode cX1_hasOn 4 = .ok (.iload_n 1, 1) := by decide +kernel
theorem dX1_hasOn_5 : decode cX1_hasOn 5 = .ok (.aload_n 0, 1) := by decide +kernel
theorem dX1_hasOn_6 : decode cX1_hasOn 6 = .ok (.getfield 132, 3) := by decide +kernel
theorem dX1_hasOn_9 : decode cX1_hasOn 9 = .ok (.invokestatic 135, 3) := by decide +kernel
theorem dX1_hasOn_12 : decode cX1_hasOn 12 = .ok (.aaload, 1) := by decide +kernel
theorem dX1_hasOn_13 : decode cX1_hasOn 13 = .ok (.iload_n 2, 1) := by decide +kernel
theorem dX1_hasOn_14 : decode cX1_hasOn 14 = .ok (.iaload, 1) := by decide +kernel
theorem dX1_hasOn_15 : decode cX1_hasOn 15 = .ok (.ireturn, 1) := by decide +kernel
theorem dX1_tornOn_0 : decode cX1_tornOn 0 = .ok (.aload_n 0, 1) := by decide +kernel
theorem dX1_tornOn_1 : decode cX1_tornOn 1 = .ok (.getfield 27, 3) := by decide +kernel
theorem dX1_tornOn_4 : decode cX1_tornOn 4 = .ok (.iload_n 1, 1) := by decide +kernel
theorem dX1_tornOn_5 : decode cX1_tornOn 5 = .ok (.aload_n 0, 1) := by decide +kernel
theorem dX1_tornOn_6 : decode cX1_tornOn 6 = .ok (.getfield 132, 3) := by decide +kernel
theorem dX1_tornOn_9 : decode cX1_tornOn 9 = .ok (.invokestatic 135, 3) := by decide +kernel
theorem dX1_tornOn_12 : decode cX1_tornOn 12 = .ok (.iaload, 1) := by decide +kernel
theorem dX1_tornOn_13 : decode cX1_tornOn 13 = .ok (.ireturn, 1) := by decide +kernel
theorem dX1_servedOn_0 : decode cX1_servedOn 0 = .ok (.aload_n 0, 1) := by decide +kernel
theorem dX1_servedOn_1 : decode cX1_servedOn 1 = .ok (.getfield 30, 3) := by decide +kernel
theorem dX1_servedOn_4 : decode cX1_servedOn 4 = .ok (.iload_n 1, 1) := by decide +kernel
theorem dX1_servedOn_5 : decode cX1_servedOn 5 = .ok (.aload_n 0, 1) := by decide +kernel
theorem dX1_servedOn_6 : decode cX1_servedOn 6 = .ok (.getfield 132, 3) := by decide +kernel
theorem dX1_servedOn_9 : decode cX1_servedOn 9 = .ok (.invokestatic 135, 3) := by decide +kernel
theorem dX1_servedOn_12 : decode cX1_servedOn 12 = .ok (.iaload, 1) := by decide +kernel
theorem dX1_servedOn_13 : decode cX1_servedOn 13 = .ok (.ireturn, 1) := by decide +kernel
theorem dX1_bagOn_0 : decode cX1_bagOn 0 = .ok (.aload_n 0, 1) := by decide +kernel
theorem dX1_bagOn_1 : decode cX1_bagOn 1 = .ok (.getfield 33, 3) := by decide +kernel
theorem dX1_bagOn_4 : decode cX1_bagOn 4 = .ok (.iload_n 1, 1) := by decide +kernel
theorem dX1_bagOn_5 : decode cX1_bagOn 5 = .ok (.aload_n 0, 1) := by decide +kernel
theorem dX1_bagOn_6 : decode cX1_bagOn 6 = .ok (.getfield 132, 3) := by decide +kernel
theorem dX1_bagOn_9 : decode cX1_bagOn 9 = .ok (.invokestatic 135, 3) := by decide +kernel
theorem dX1_bagOn_12 : decode cX1_bagOn 12 = .ok (.aaload, 1) := by decide +kernel
theorem dX1_bagOn_13 : decode cX1_bagOn 13 = .ok (.areturn, 1) := by decide +kernel
theorem dX1_servedAtLast_0 : decode cX1_servedAtLast 0 = .ok (.aload_n 0, 1) := by decide +kernel
theorem dX1_servedAtLast_1 : decode cX1_servedAtLast 1 = .ok (.getfield 30, 3) := by decide +kernel
theorem dX1_servedAtLast_4 : decode cX1_servedAtLast 4 = .ok (.aload_n 0, 1) := by decide +kernel
theorem dX1_servedAtLast_5 : decode cX1_servedAtLast 5 = .ok (.getfield 132, 3) := by decide +kernel
theorem dX1_servedAtLast_8 : decode cX1_servedAtLast 8 = .ok (.iaload, 1) := by decide +kernel
theorem dX1_servedAtLast_9 : decode cX1_servedAtLast 9 = .ok (.invokestatic 141, 3) := by decide +kernel
theorem dX1_servedAtLast_12 : decode cX1_servedAtLast 12 = .ok (.ireturn, 1) := by decide +kernel
theorem dX2_init_0 : decode cX2_init 0 = .ok (.aload_n 0, 1) := by decide +kernel
theorem dX2_init_1 : decode cX2_init 1 = .ok (.invokespecial 3, 3) := by decide +kernel
theorem dX2_init_4 : decode cX2_init 4 = .ok (.aload_n 0, 1) := by decide +kernel
theorem dX2_init_5 : decode cX2_init 5 = .ok (.iconst (-1), 1) := by decide +kernel
theorem dX2_init_6 : decode cX2_init 6 = .ok (.putfield 9, 3) := by decide +kernel
theorem dX2_init_9 : decode cX2_init 9 = .ok (.aload_n 0, 1) := by decide +kernel
theorem dX2_init_10 : decode cX2_init 10 = .ok (.bipush 60, 2) := by decide +kernel
theorem dX2_init_12 : decode cX2_init 12 = .ok (.newarray .int, 2) := by decide +kernel
theorem dX2_init_14 : decode cX2_init 14 = .ok (.putfield 15, 3) := by decide +kernel
theorem dX2_init_17 : decode cX2_init 17 = .ok (.return_, 1) := by decide +kernel
theorem dX2_isLost_0 : decode cX2_isLost 0 = .ok (.aload_n 0, 1) := by decide +kernel
theorem dX2_isLost_1 : decode cX2_isLost 1 = .ok (.getfield 9, 3) := by decide +kernel
theorem dX2_isLost_4 : decode cX2_isLost 4 = .ok (.iconst (-1), 1) := by decide +kernel
theorem dX2_isLost_5 : decode cX2_isLost 5 = .ok (.if_icmp .ne 7, 3) := by decide +kernel
theorem dX2_isLost_8 : decode cX2_isLost 8 = .ok (.iconst 1, 1) := by decide +kernel
theorem dX2_isLost_9 : decode cX2_isLost 9 = .ok (.goto 4, 3) := by decide +kernel
theorem dX2_isLost_12 : decode cX2_isLost 12 = .ok (.iconst 0, 1) := by decide +kernel
theorem dX2_isLost_13 : decode cX2_isLost 13 = .ok (.ireturn, 1) := by decide +kernel
theorem dX2_startAnew_0 : decode cX2_startAnew 0 = .ok (.aload_n 0, 1) := by decide +kernel
theorem dX2_startAnew_1 : decode cX2_startAnew 1 = .ok (.iload_n 1, 1) := by decide +kernel
theorem dX2_startAnew_2 : decode cX2_startAnew 2 = .ok (.putfield 9, 3) := by decide +kernel
theorem dX2_startAnew_5 : decode cX2_startAnew 5 = .ok (.aload_n 0, 1) := by decide +kernel
theorem dX2_startAnew_6 : decode cX2_startAnew 6 = .ok (.iload_n 2, 1) := by decide +kernel
theorem dX2_startAnew_7 : decode cX2_startAnew 7 = .ok (.putfield 19, 3) := by decide +kernel
theorem dX2_startAnew_10 : decode cX2_startAnew 10 = .ok (.aload_n 0, 1) := by decide +kernel
theorem dX2_startAnew_11 : decode cX2_startAnew 11 = .ok (.getfield 15, 3) := by decide +kernel
theorem dX2_startAnew_14 : decode cX2_startAnew 14 = .ok (.iconst 0, 1) := by decide +kernel
theorem dX2_startAnew_15 : decode cX2_startAnew 15 = .ok (.invokestatic 22, 3) := by decide +kernel
theorem dX2_startAnew_18 : decode cX2_startAnew 18 = .ok (.return_, 1) := by decide +kernel
theorem dX2_giveUp_0 : decode cX2_giveUp 0 = .ok (.aload_n 0, 1) := by decide +kernel
theorem dX2_giveUp_1 : decode cX2_giveUp 1 = .ok (.iconst (-1), 1) := by decide +kernel
theorem dX2_giveUp_2 : decode cX2_giveUp 2 = .ok (.putfield 9, 3) := by decide +kernel
theorem dX2_giveUp_5 : decode cX2_giveUp 5 = .ok (.aload_n 0, 1) := by decide +kernel
theorem dX2_giveUp_6 : decode cX2_giveUp 6 = .ok (.iconst 0, 1) := by decide +kernel
theorem dX2_giveUp_7 : decode cX2_giveUp 7 = .ok (.putfield 19, 3) := by decide +kernel
theorem dX2_giveUp_10 : decode cX2_giveUp 10 = .ok (.return_, 1) := by decide +kernel
theorem dX2_hasItems_0 : decode cX2_hasItems 0 = .ok (.iload_n 1, 1) := by decide +kernel
theorem dX2_hasItems_1 : decode cX2_hasItems 1 = .ok (.ifCond .lt 29, 3) := by decide +kernel
theorem dX2_hasItems_4 : decode cX2_hasItems 4 = .ok (.iload_n 2, 1) := by decide +kernel
theorem dX2_hasItems_5 : decode cX2_hasItems 5 = .ok (.ifCond .lt 25, 3) := by decide +kernel
theorem dX2_hasItems_8 : decode cX2_hasItems 8 = .ok (.iload_n 1, 1) := by decide +kernel
theorem dX2_hasItems_9 : decode cX2_hasItems 9 = .ok (.aload_n 0, 1) := by decide +kernel
theorem dX2_hasItems_10 : decode cX2_hasItems 10 = .ok (.getfield 19, 3) := by decide +kernel
theorem dX2_hasItems_13 : decode cX2_hasItems 13 = .ok (.if_icmp .gt 17, 3) := by decide +kernel
theorem dX2_hasItems_16 : decode cX2_hasItems 16 = .ok (.iload_n 2, 1) := by decide +kernel
theorem dX2_hasItems_17 : decode cX2_hasItems 17 = .ok (.aload_n 0, 1) := by decide +kernel
theorem dX2_hasItems_18 : decode cX2_hasItems 18 = .ok (.getfield 19, 3) := by decide +kernel
theorem dX2_hasItems_21 : decode cX2_hasItems 21 = .ok (.iload_n 1, 1) := by decide +kernel
theorem dX2_hasItems_22 : decode cX2_hasItems 22 = .ok (.isub, 1) := by decide +kernel
theorem dX2_hasItems_23 : decode cX2_hasItems 23 = .ok (.if_icmp .gt 7, 3) := by decide +kernel
theorem dX2_hasItems_26 : decode cX2_hasItems 26 = .ok (.iconst 1, 1) := by decide +kernel
theorem dX2_hasItems_27 : decode cX2_hasItems 27 = .ok (.goto 4, 3) := by decide +kernel
theorem dX2_hasItems_30 : decode cX2_hasItems 30 = .ok (.iconst 0, 1) := by decide +kernel
theorem dX2_hasItems_31 : decode cX2_hasItems 31 = .ok (.ireturn, 1) := by decide +kernel
theorem dX2_put_0 : decode cX2_put 0 = .ok (.iload_n 1, 1) := by decide +kernel
theorem dX2_put_1 : decode cX2_put 1 = .ok (.ifCond .lt 43, 3) := by decide +kernel
theorem dX2_put_4 : decode cX2_put 4 = .ok (.iload_n 1, 1) := by decide +kernel
theorem dX2_put_5 : decode cX2_put 5 = .ok (.aload_n 0, 1) := by decide +kernel
theorem dX2_put_6 : decode cX2_put 6 = .ok (.getfield 19, 3) := by decide +kernel
theorem dX2_put_9 : decode cX2_put 9 = .ok (.if_icmp .ge 35, 3) := by decide +kernel
theorem dX2_put_12 : decode cX2_put 12 = .ok (.aload_n 0, 1) := by decide +kernel
theorem dX2_put_13 : decode cX2_put 13 = .ok (.getfield 15, 3) := by decide +kernel
theorem dX2_put_16 : decode cX2_put 16 = .ok (.iload_n 1, 1) := by decide +kernel
theorem dX2_put_17 : decode cX2_put 17 = .ok (.aload_n 0, 1) := by decide +kernel
theorem dX2_put_18 : decode cX2_put 18 = .ok (.getfield 9, 3) := by decide +kernel
theorem dX2_put_21 : decode cX2_put 21 = .ok (.ifCond .ne 8, 3) := by decide +kernel
theorem dX2_put_24 : decode cX2_put 24 = .ok (.iload_n 2, 1) := by decide +kernel
theorem dX2_put_25 : decode cX2_put 25 = .ok (.i2b, 1) := by decide +kernel
theorem dX2_put_26 : decode cX2_put 26 = .ok (.goto 17, 3) := by decide +kernel
theorem dX2_put_29 : decode cX2_put 29 = .ok (.aload_n 0, 1) := by decide +kernel
theorem dX2_put_30 : decode cX2_put 30 = .ok (.getfield 9, 3) := by decide +kernel
theorem dX2_put_33 : decode cX2_put 33 = .ok (.iconst 1, 1) := by decide +kernel
theorem dX2_put_34 : decode cX2_put 34 = .ok (.if_icmp .ne 8, 3) := by decide +kernel
theorem dX2_put_37 : decode cX2_put 37 = .ok (.iload_n 2, 1) := by decide +kernel
theorem dX2_put_38 : decode cX2_put 38 = .ok (.i2s, 1) := by decide +kernel
theorem dX2_put_39 : decode cX2_put 39 = .ok (.goto 4, 3) := by decide +kernel
theorem dX2_put_42 : decode cX2_put 42 = .ok (.iload_n 2, 1) := by decide +kernel
theorem dX2_put_43 : decode cX2_put 43 = .ok (.iastore, 1) := by decide +kernel
theorem dX2_put_44 : decode cX2_put 44 = .ok (.return_, 1) := by decide +kernel
theorem dX3_init_0 : decode cX3_init 0 = .ok (.aload_n 0, 1) := by decide +kernel
theorem dX3_init_1 : decode cX3_init 1 = .ok (.invokespecial 3, 3) := by decide +kernel
theorem dX3_init_4 : decode cX3_init 4 = .ok (.aload_n 0, 1) := by decide +kernel
theorem dX3_init_5 : decode cX3_init 5 = .ok (.bipush 8, 2) := by decide +kernel
theorem dX3_init_7 : decode cX3_init 7 = .ok (.newarray .int, 2) := by decide +kernel
theorem dX3_init_9 : decode cX3_init 9 = .ok (.putfield 9, 3) := by decide +kernel
theorem dX3_init_12 : decode cX3_init 12 = .ok (.aload_n 0, 1) := by decide +kernel
theorem dX3_init_13 : decode cX3_init 13 = .ok (.bipush 8, 2) := by decide +kernel
theorem dX3_init_15 : decode cX3_init 15 = .ok (.newarray .int, 2) := by decide +kernel
theorem dX3_init_17 : decode cX3_init 17 = .ok (.putfield 15, 3) := by decide +kernel
theorem dX3_init_20 : decode cX3_init 20 = .ok (.aload_n 0, 1) := by decide +kernel
theorem dX3_init_21 : decode cX3_init 21 = .ok (.bipush 8, 2) := by decide +kernel
theorem dX3_init_23 : decode cX3_init 23 = .ok (.newarray .int, 2) := by decide +kernel
theorem dX3_init_25 : decode cX3_init 25 = .ok (.putfield 18, 3) := by decide +kernel
theorem dX3_init_28 : decode cX3_init 28 = .ok (.return_, 1) := by decide +kernel
theorem dX3_mayBe_0 : decode cX3_mayBe 0 = .ok (.iload_n 0, 1) := by decide +kernel
theorem dX3_mayBe_1 : decode cX3_mayBe 1 = .ok (.bipush 10, 2) := by decide +kernel
theorem dX3_mayBe_3 : decode cX3_mayBe 3 = .ok (.invokestatic 21, 3) := by decide +kernel
theorem dX3_mayBe_6 : decode cX3_mayBe 6 = .ok (.ifCond .ne 25, 3) := by decide +kernel
theorem dX3_mayBe_9 : decode cX3_mayBe 9 = .ok (.iload_n 1, 1) := by decide +kernel
theorem dX3_mayBe_10 : decode cX3_mayBe 10 = .ok (.bipush 8, 2) := by decide +kernel
theorem dX3_mayBe_12 : decode cX3_mayBe 12 = .ok (.invokestatic 21, 3) := by decide +kernel
theorem dX3_mayBe_15 : decode cX3_mayBe 15 = .ok (.ifCond .ne 16, 3) := by decide +kernel
theorem dX3_mayBe_18 : decode cX3_mayBe 18 = .ok (.iload_n 2, 1) := by decide +kernel
theorem dX3_mayBe_19 : decode cX3_mayBe 19 = .ok (.bipush 9, 2) := by decide +kernel
theorem dX3_mayBe_21 : decode cX3_mayBe 21 = .ok (.invokestatic 21, 3) := by decide +kernel
theorem dX3_mayBe_24 : decode cX3_mayBe 24 = .ok (.ifCond .ne 7, 3) := by decide +kernel
theorem dX3_mayBe_27 : decode cX3_mayBe 27 = .ok (.iconst 1, 1) := by decide +kernel
theorem dX3_mayBe_28 : decode cX3_mayBe 28 = .ok (.goto 4, 3) := by decide +kernel
theorem dX3_mayBe_31 : decode cX3_mayBe 31 = .ok (.iconst 0, 1) := by decide +kernel
theorem dX3_mayBe_32 : decode cX3_mayBe 32 = .ok (.ireturn, 1) := by decide +kernel
theorem dX3_isFull_0 : decode cX3_isFull 0 = .ok (.aload_n 0, 1) := by decide +kernel
theorem dX3_isFull_1 : decode cX3_isFull 1 = .ok (.getfield 25, 3) := by decide +kernel
theorem dX3_isFull_4 : decode cX3_isFull 4 = .ok (.bipush 8, 2) := by decide +kernel
theorem dX3_isFull_6 : decode cX3_isFull 6 = .ok (.if_icmp .lt 7, 3) := by decide +kernel
theorem dX3_isFull_9 : decode cX3_isFull 9 = .ok (.iconst 1, 1) := by decide +kernel
theorem dX3_isFull_10 : decode cX3_isFull 10 = .ok (.goto 4, 3) := by decide +kernel
theorem dX3_isFull_13 : decode cX3_isFull 13 = .ok (.iconst 0, 1) := by decide +kernel
theorem dX3_isFull_14 : decode cX3_isFull 14 = .ok (.ireturn, 1) := by decide +kernel
theorem dX3_append_0 : decode cX3_append 0 = .ok (.aload_n 0, 1) := by decide +kernel
theorem dX3_append_1 : decode cX3_append 1 = .ok (.invokevirtual 29, 3) := by decide +kernel
theorem dX3_append_4 : decode cX3_append 4 = .ok (.ifCond .ne 43, 3) := by decide +kernel
theorem dX3_append_7 : decode cX3_append 7 = .ok (.aload_n 0, 1) := by decide +kernel
theorem dX3_append_8 : decode cX3_append 8 = .ok (.getfield 9, 3) := by decide +kernel
theorem dX3_append_11 : decode cX3_append 11 = .ok (.aload_n 0, 1) := by decide +kernel
theorem dX3_append_12 : decode cX3_append 12 = .ok (.getfield 25, 3) := by decide +kernel
theorem dX3_append_15 : decode cX3_append 15 = .ok (.iload_n 1, 1) := by decide +kernel
theorem dX3_append_16 : decode cX3_append 16 = .ok (.iastore, 1) := by decide +kernel
theorem dX3_append_17 : decode cX3_append 17 = .ok (.aload_n 0, 1) := by decide +kernel
theorem dX3_append_18 : decode cX3_append 18 = .ok (.getfield 15, 3) := by decide +kernel
theorem dX3_append_21 : decode cX3_append 21 = .ok (.aload_n 0, 1) := by decide +kernel
theorem dX3_append_22 : decode cX3_append 22 = .ok (.getfield 25, 3) := by decide +kernel
theorem dX3_append_25 : decode cX3_append 25 = .ok (.iload_n 2, 1) := by decide +kernel
theorem dX3_append_26 : decode cX3_append 26 = .ok (.iastore, 1) := by decide +kernel
theorem dX3_append_27 : decode cX3_append 27 = .ok (.aload_n 0, 1) := by decide +kernel
theorem dX3_append_28 : decode cX3_append 28 = .ok (.getfield 18, 3) := by decide +kernel
theorem dX3_append_31 : decode cX3_append 31 = .ok (.aload_n 0, 1) := by decide +kernel
theorem dX3_append_32 : decode cX3_append 32 = .ok (.getfield 25, 3) := by decide +kernel
theorem dX3_append_35 : decode cX3_append 35 = .ok (.iload_n 3, 1) := by decide +kernel
theorem dX3_append_36 : decode cX3_append 36 = .ok (.iastore, 1) := by decide +kernel
theorem dX3_append_37 : decode cX3_append 37 = .ok (.aload_n 0, 1) := by decide +kernel
theorem dX3_append_38 : decode cX3_append 38 = .ok (.dup, 1) := by decide +kernel
theorem dX3_append_39 : decode cX3_append 39 = .ok (.getfield 25, 3) := by decide +kernel
theorem dX3_append_42 : decode cX3_append 42 = .ok (.iconst 1, 1) := by decide +kernel
theorem dX3_append_43 : decode cX3_append 43 = .ok (.iadd, 1) := by decide +kernel
theorem dX3_append_44 : decode cX3_append 44 = .ok (.putfield 25, 3) := by decide +kernel
theorem dX3_append_47 : decode cX3_append 47 = .ok (.return_, 1) := by decide +kernel
theorem dX3_comeOutIn_0 : decode cX3_comeOutIn 0 = .ok (.iconst 0, 1) := by decide +kernel
theorem dX3_comeOutIn_1 : decode cX3_comeOutIn 1 = .ok (.istore_n 3, 1) := by decide +kernel
theorem dX3_comeOutIn_2 : decode cX3_comeOutIn 2 = .ok (.iload_n 3, 1) := by decide +kernel
theorem dX3_comeOutIn_3 : decode cX3_comeOutIn 3 = .ok (.aload_n 0, 1) := by decide +kernel
theorem dX3_comeOutIn_4 : decode cX3_comeOutIn 4 = .ok (.getfield 25, 3) := by decide +kernel
theorem dX3_comeOutIn_7 : decode cX3_comeOutIn 7 = .ok (.if_icmp .ge 65, 3) := by decide +kernel
theorem dX3_comeOutIn_10 : decode cX3_comeOutIn 10 = .ok (.aload_n 0, 1) := by decide +kernel
theorem dX3_comeOutIn_11 : decode cX3_comeOutIn 11 = .ok (.getfield 18, 3) := by decide +kernel
theorem dX3_comeOutIn_14 : decode cX3_comeOutIn 14 = .ok (.iload_n 3, 1) := by decide +kernel
theorem dX3_comeOutIn_15 : decode cX3_comeOutIn 15 = .ok (.iaload, 1) := by decide +kernel
theorem dX3_comeOutIn_16 : decode cX3_comeOutIn 16 = .ok (.bipush 8, 2) := by decide +kernel
theorem dX3_comeOutIn_18 : decode cX3_comeOutIn 18 = .ok (.if_icmp .ne 7, 3) := by decide +kernel
theorem dX3_comeOutIn_21 : decode cX3_comeOutIn 21 = .ok (.iconst (-1), 1) := by decide +kernel
theorem dX3_comeOutIn_22 : decode cX3_comeOutIn 22 = .ok (.goto 9, 3) := by decide +kernel
theorem dX3_comeOutIn_25 : decode cX3_comeOutIn 25 = .ok (.aload_n 0, 1) := by decide +kernel
theorem dX3_comeOutIn_26 : decode cX3_comeOutIn 26 = .ok (.getfield 18, 3) := by decide +kernel
theorem dX3_comeOutIn_29 : decode cX3_comeOutIn 29 = .ok (.iload_n 3, 1) := by decide +kernel
theorem dX3_comeOutIn_30 : decode cX3_comeOutIn 30 = .ok (.iaload, 1) := by decide +kernel
theorem dX3_comeOutIn_31 : decode cX3_comeOutIn 31 = .ok (.istore 4, 2) := by decide +kernel
theorem dX3_comeOutIn_33 : decode cX3_comeOutIn 33 = .ok (.aload_n 0, 1) := by decide +kernel
theorem dX3_comeOutIn_34 : decode cX3_comeOutIn 34 = .ok (.getfield 15, 3) := by decide +kernel
theorem dX3_comeOutIn_37 : decode cX3_comeOutIn 37 = .ok (.iload_n 3, 1) := by decide +kernel
theorem dX3_comeOutIn_38 : decode cX3_comeOutIn 38 = .ok (.iaload, 1) := by decide +kernel
theorem dX3_comeOutIn_39 : decode cX3_comeOutIn 39 = .ok (.iload_n 2, 1) := by decide +kernel
theorem dX3_comeOutIn_40 : decode cX3_comeOutIn 40 = .ok (.if_icmp .ge 24, 3) := by decide +kernel
theorem dX3_comeOutIn_43 : decode cX3_comeOutIn 43 = .ok (.aload_n 1, 1) := by decide +kernel
theorem dX3_comeOutIn_44 : decode cX3_comeOutIn 44 = .ok (.aload_n 0, 1) := by decide +kernel
theorem dX3_comeOutIn_45 : decode cX3_comeOutIn 45 = .ok (.getfield 9, 3) := by decide +kernel
theorem dX3_comeOutIn_48 : decode cX3_comeOutIn 48 = .ok (.iload_n 3, 1) := by decide +kernel
theorem dX3_comeOutIn_49 : decode cX3_comeOutIn 49 = .ok (.iaload, 1) := by decide +kernel
theorem dX3_comeOutIn_50 : decode cX3_comeOutIn 50 = .ok (.aload_n 0, 1) := by decide +kernel
theorem dX3_comeOutIn_51 : decode cX3_comeOutIn 51 = .ok (.getfield 15, 3) := by decide +kernel
theorem dX3_comeOutIn_54 : decode cX3_comeOutIn 54 = .ok (.iload_n 3, 1) := by decide +kernel
theorem dX3_comeOutIn_55 : decode cX3_comeOutIn 55 = .ok (.iaload, 1) := by decide +kernel
theorem dX3_comeOutIn_56 : decode cX3_comeOutIn 56 = .ok (.invokevirtual 33, 3) := by decide +kernel
theorem dX3_comeOutIn_59 : decode cX3_comeOutIn 59 = .ok (.iload 4, 2) := by decide +kernel
theorem dX3_comeOutIn_61 : decode cX3_comeOutIn 61 = .ok (.if_icmp .eq 5, 3) := by decide +kernel
theorem dX3_comeOutIn_64 : decode cX3_comeOutIn 64 = .ok (.iconst 0, 1) := by decide +kernel
theorem dX3_comeOutIn_65 : decode cX3_comeOutIn 65 = .ok (.ireturn, 1) := by decide +kernel
theorem dX3_comeOutIn_66 : decode cX3_comeOutIn 66 = .ok (.iinc 3 1, 3) := by decide +kernel
theorem dX3_comeOutIn_69 : decode cX3_comeOutIn 69 = .ok (.goto (-67), 3) := by decide +kernel
theorem dX3_comeOutIn_72 : decode cX3_comeOutIn 72 = .ok (.iconst 1, 1) := by decide +kernel
theorem dX3_comeOutIn_73 : decode cX3_comeOutIn 73 = .ok (.ireturn, 1) := by decide +kernel
theorem dX4_init_0 : decode cX4_init 0 = .ok (.aload_n 0, 1) := by decide +kernel
theorem dX4_init_1 : decode cX4_init 1 = .ok (.invokespecial 3, 3) := by decide +kernel
theorem dX4_init_4 : decode cX4_init 4 = .ok (.aload_n 0, 1) := by decide +kernel
theorem dX4_init_5 : decode cX4_init 5 = .ok (.sipush 1024, 3) := by decide +kernel
theorem dX4_init_8 : decode cX4_init 8 = .ok (.newarray .long, 2) := by decide +kernel
theorem dX4_init_10 : decode cX4_init 10 = .ok (.putfield 9, 3) := by decide +kernel
theorem dX4_init_13 : decode cX4_init 13 = .ok (.aload_n 0, 1) := by decide +kernel
theorem dX4_init_14 : decode cX4_init 14 = .ok (.sipush 1024, 3) := by decide +kernel
theorem dX4_init_17 : decode cX4_init 17 = .ok (.newarray .int, 2) := by decide +kernel
theorem dX4_init_19 : decode cX4_init 19 = .ok (.putfield 15, 3) := by decide +kernel
theorem dX4_init_22 : decode cX4_init 22 = .ok (.return_, 1) := by decide +kernel
theorem dX4_startAnew_0 : decode cX4_startAnew 0 = .ok (.aload_n 0, 1) := by decide +kernel
theorem dX4_startAnew_1 : decode cX4_startAnew 1 = .ok (.dup, 1) := by decide +kernel
theorem dX4_startAnew_2 : decode cX4_startAnew 2 = .ok (.getfield 19, 3) := by decide +kernel
theorem dX4_startAnew_5 : decode cX4_startAnew 5 = .ok (.iconst 1, 1) := by decide +kernel
theorem dX4_startAnew_6 : decode cX4_startAnew 6 = .ok (.iadd, 1) := by decide +kernel
theorem dX4_startAnew_7 : decode cX4_startAnew 7 = .ok (.putfield 19, 3) := by decide +kernel
theorem dX4_startAnew_10 : decode cX4_startAnew 10 = .ok (.aload_n 0, 1) := by decide +kernel
theorem dX4_startAnew_11 : decode cX4_startAnew 11 = .ok (.iconst 0, 1) := by decide +kernel
theorem dX4_startAnew_12 : decode cX4_startAnew 12 = .ok (.putfield 23, 3) := by decide +kernel
theorem dX4_startAnew_15 : decode cX4_startAnew 15 = .ok (.iconst 0, 1) := by decide +kernel
theorem dX4_startAnew_16 : decode cX4_startAnew 16 = .ok (.istore_n 2, 1) := by decide +kernel
theorem dX4_startAnew_17 : decode cX4_startAnew 17 = .ok (.iload_n 2, 1) := by decide +kernel
theorem dX4_startAnew_18 : decode cX4_startAnew 18 = .ok (.aload_n 1, 1) := by decide +kernel
theorem dX4_startAnew_19 : decode cX4_startAnew 19 = .ok (.getfield 26, 3) := by decide +kernel
theorem dX4_startAnew_22 : decode cX4_startAnew 22 = .ok (.if_icmp .ge 62, 3) := by decide +kernel
theorem dX4_startAnew_25 : decode cX4_startAnew 25 = .ok (.aload_n 1, 1) := by decide +kernel
theorem dX4_startAnew_26 : decode cX4_startAnew 26 = .ok (.iload_n 2, 1) := by decide +kernel
theorem dX4_startAnew_27 : decode cX4_startAnew 27 = .ok (.aload_n 1, 1) := by decide +kernel
theorem dX4_startAnew_28 : decode cX4_startAnew 28 = .ok (.getfield 31, 3) := by decide +kernel
theorem dX4_startAnew_31 : decode cX4_startAnew 31 = .ok (.iload_n 2, 1) := by decide +kernel
theorem dX4_startAnew_32 : decode cX4_startAnew 32 = .ok (.iaload, 1) := by decide +kernel
theorem dX4_startAnew_33 : decode cX4_startAnew 33 = .ok (.aload_n 1, 1) := by decide +kernel
theorem dX4_startAnew_34 : decode cX4_startAnew 34 = .ok (.getfield 34, 3) := by decide +kernel
theorem dX4_startAnew_37 : decode cX4_startAnew 37 = .ok (.invokevirtual 37, 3) := by decide +kernel
theorem dX4_startAnew_40 : decode cX4_startAnew 40 = .ok (.ifCond .eq 38, 3) := by decide +kernel
theorem dX4_startAnew_43 : decode cX4_startAnew 43 = .ok (.iconst 0, 1) := by decide +kernel
theorem dX4_startAnew_44 : decode cX4_startAnew 44 = .ok (.istore_n 3, 1) := by decide +kernel
theorem dX4_startAnew_45 : decode cX4_startAnew 45 = .ok (.iload_n 3, 1) := by decide +kernel
theorem dX4_startAnew_46 : decode cX4_startAnew 46 = .ok (.bipush 10, 2) := by decide +kernel
theorem dX4_startAnew_48 : decode cX4_startAnew 48 = .ok (.if_icmp .ge 30, 3) := by decide +kernel
theorem dX4_startAnew_51 : decode cX4_startAnew 51 = .ok (.aload_n 0, 1) := by decide +kernel
theorem dX4_startAnew_52 : decode cX4_startAnew 52 = .ok (.dup, 1) := by decide +kernel
theorem dX4_startAnew_53 : decode cX4_startAnew 53 = .ok (.getfield 23, 3) := by decide +kernel
theorem dX4_startAnew_56 : decode cX4_startAnew 56 = .ok (.aload_n 1, 1) := by decide +kernel
theorem dX4_startAnew_57 : decode cX4_startAnew 57 = .ok (.getfield 41, 3) := by decide +kernel
theorem dX4_startAnew_60 : decode cX4_startAnew 60 = .ok (.iload_n 3, 1) := by decide +kernel
theorem dX4_startAnew_61 : decode cX4_startAnew 61 = .ok (.iaload, 1) := by decide +kernel
theorem dX4_startAnew_62 : decode cX4_startAnew 62 = .ok (.iload_n 2, 1) := by decide +kernel
theorem dX4_startAnew_63 : decode cX4_startAnew 63 = .ok (.ishr, 1) := by decide +kernel
theorem dX4_startAnew_64 : decode cX4_startAnew 64 = .ok (.iconst 1, 1) := by decide +kernel
theorem dX4_startAnew_65 : decode cX4_startAnew 65 = .ok (.iand, 1) := by decide +kernel
theorem dX4_startAnew_66 : decode cX4_startAnew 66 = .ok (.iload_n 3, 1) := by decide +kernel
theorem dX4_startAnew_67 : decode cX4_startAnew 67 = .ok (.ishl, 1) := by decide +kernel
theorem dX4_startAnew_68 : decode cX4_startAnew 68 = .ok (.ior, 1) := by decide +kernel
theorem dX4_startAnew_69 : decode cX4_startAnew 69 = .ok (.putfield 23, 3) := by decide +kernel
theorem dX4_startAnew_72 : decode cX4_startAnew 72 = .ok (.iinc 3 1, 3) := by decide +kernel
theorem dX4_startAnew_75 : decode cX4_startAnew 75 = .ok (.goto (-30), 3) := by decide +kernel
theorem dX4_startAnew_78 : decode cX4_startAnew 78 = .ok (.iinc 2 1, 3) := by decide +kernel
theorem dX4_startAnew_81 : decode cX4_startAnew 81 = .ok (.goto (-64), 3) := by decide +kernel
theorem dX4_startAnew_84 : decode cX4_startAnew 84 = .ok (.return_, 1) := by decide +kernel
theorem dX4_servedBy_0 : decode cX4_servedBy 0 = .ok (.iload_n 1, 1) := by decide +kernel
theorem dX4_servedBy_1 : decode cX4_servedBy 1 = .ok (.aload_n 0, 1) := by decide +kernel
theorem dX4_servedBy_2 : decode cX4_servedBy 2 = .ok (.getfield 23, 3) := by decide +kernel
theorem dX4_servedBy_5 : decode cX4_servedBy 5 = .ok (.iand, 1) := by decide +kernel
theorem dX4_servedBy_6 : decode cX4_servedBy 6 = .ok (.istore 4, 2) := by decide +kernel
theorem dX4_servedBy_8 : decode cX4_servedBy 8 = .ok (.aload_n 0, 1) := by decide +kernel
theorem dX4_servedBy_9 : decode cX4_servedBy 9 = .ok (.getfield 15, 3) := by decide +kernel
theorem dX4_servedBy_12 : decode cX4_servedBy 12 = .ok (.iload 4, 2) := by decide +kernel
theorem dX4_servedBy_14 : decode cX4_servedBy 14 = .ok (.iaload, 1) := by decide +kernel
theorem dX4_servedBy_15 : decode cX4_servedBy 15 = .ok (.aload_n 0, 1) := by decide +kernel
theorem dX4_servedBy_16 : decode cX4_servedBy 16 = .ok (.getfield 19, 3) := by decide +kernel
theorem dX4_servedBy_19 : decode cX4_servedBy 19 = .ok (.if_icmp .eq 75, 3) := by decide +kernel
theorem dX4_servedBy_22 : decode cX4_servedBy 22 = .ok (.aload_n 3, 1) := by decide +kernel
theorem dX4_servedBy_23 : decode cX4_servedBy 23 = .ok (.invokevirtual 44, 3) := by decide +kernel
theorem dX4_servedBy_26 : decode cX4_servedBy 26 = .ok (.aload_n 3, 1) := by decide +kernel
theorem dX4_servedBy_27 : decode cX4_servedBy 27 = .ok (.iload 4, 2) := by decide +kernel
theorem dX4_servedBy_29 : decode cX4_servedBy 29 = .ok (.putfield 49, 3) := by decide +kernel
theorem dX4_servedBy_32 : decode cX4_servedBy 32 = .ok (.aload_n 3, 1) := by decide +kernel
theorem dX4_servedBy_33 : decode cX4_servedBy 33 = .ok (.invokevirtual 52, 3) := by decide +kernel
theorem dX4_servedBy_36 : decode cX4_servedBy 36 = .ok (.aload_n 0, 1) := by decide +kernel
theorem dX4_servedBy_37 : decode cX4_servedBy 37 = .ok (.getfield 9, 3) := by decide +kernel
theorem dX4_servedBy_40 : decode cX4_servedBy 40 = .ok (.iload 4, 2) := by decide +kernel
theorem dX4_servedBy_42 : decode cX4_servedBy 42 = .ok (.lconst 0, 1) := by decide +kernel
theorem dX4_servedBy_43 : decode cX4_servedBy 43 = .ok (.lastore, 1) := by decide +kernel
theorem dX4_servedBy_44 : decode cX4_servedBy 44 = .ok (.iconst 0, 1) := by decide +kernel
theorem dX4_servedBy_45 : decode cX4_servedBy 45 = .ok (.istore 5, 2) := by decide +kernel
theorem dX4_servedBy_47 : decode cX4_servedBy 47 = .ok (.iload 5, 2) := by decide +kernel
theorem dX4_servedBy_49 : decode cX4_servedBy 49 = .ok (.bipush 7, 2) := by decide +kernel
theorem dX4_servedBy_51 : decode cX4_servedBy 51 = .ok (.if_icmp .gt 32, 3) := by decide +kernel
theorem dX4_servedBy_54 : decode cX4_servedBy 54 = .ok (.aload_n 0, 1) := by decide +kernel
theorem dX4_servedBy_55 : decode cX4_servedBy 55 = .ok (.getfield 9, 3) := by decide +kernel
theorem dX4_servedBy_58 : decode cX4_servedBy 58 = .ok (.iload 4, 2) := by decide +kernel
theorem dX4_servedBy_60 : decode cX4_servedBy 60 = .ok (.dup2, 1) := by decide +kernel
theorem dX4_servedBy_61 : decode cX4_servedBy 61 = .ok (.laload, 1) := by decide +kernel
theorem dX4_servedBy_62 : decode cX4_servedBy 62 = .ok (.aload_n 3, 1) := by decide +kernel
theorem dX4_servedBy_63 : decode cX4_servedBy 63 = .ok (.iload 5, 2) := by decide +kernel
theorem dX4_servedBy_65 : decode cX4_servedBy 65 = .ok (.invokevirtual 55, 3) := by decide +kernel
theorem dX4_servedBy_68 : decode cX4_servedBy 68 = .ok (.i2l, 1) := by decide +kernel
theorem dX4_servedBy_69 : decode cX4_servedBy 69 = .ok (.bipush 8, 2) := by decide +kernel
theorem dX4_servedBy_71 : decode cX4_servedBy 71 = .ok (.iload 5, 2) := by decide +kernel
theorem dX4_servedBy_73 : decode cX4_servedBy 73 = .ok (.imul, 1) := by decide +kernel
theorem dX4_servedBy_74 : decode cX4_servedBy 74 = .ok (.lshl, 1) := by decide +kernel
theorem dX4_servedBy_75 : decode cX4_servedBy 75 = .ok (.lor, 1) := by decide +kernel
theorem dX4_servedBy_76 : decode cX4_servedBy 76 = .ok (.lastore, 1) := by decide +kernel
theorem dX4_servedBy_77 : decode cX4_servedBy 77 = .ok (.iinc 5 1, 3) := by decide +kernel
theorem dX4_servedBy_80 : decode cX4_servedBy 80 = .ok (.goto (-33), 3) := by decide +kernel
theorem dX4_servedBy_83 : decode cX4_servedBy 83 = .ok (.aload_n 0, 1) := by decide +kernel
theorem dX4_servedBy_84 : decode cX4_servedBy 84 = .ok (.getfield 15, 3) := by decide +kernel
theorem dX4_servedBy_87 : decode cX4_servedBy 87 = .ok (.iload 4, 2) := by decide +kernel
theorem dX4_servedBy_89 : decode cX4_servedBy 89 = .ok (.aload_n 0, 1) := by decide +kernel
theorem dX4_servedBy_90 : decode cX4_servedBy 90 = .ok (.getfield 19, 3) := by decide +kernel
theorem dX4_servedBy_93 : decode cX4_servedBy 93 = .ok (.iastore, 1) := by decide +kernel
theorem dX4_servedBy_94 : decode cX4_servedBy 94 = .ok (.aload_n 0, 1) := by decide +kernel
theorem dX4_servedBy_95 : decode cX4_servedBy 95 = .ok (.getfield 9, 3) := by decide +kernel
theorem dX4_servedBy_98 : decode cX4_servedBy 98 = .ok (.iload 4, 2) := by decide +kernel
theorem dX4_servedBy_100 : decode cX4_servedBy 100 = .ok (.laload, 1) := by decide +kernel
theorem dX4_servedBy_101 : decode cX4_servedBy 101 = .ok (.bipush 8, 2) := by decide +kernel
theorem dX4_servedBy_103 : decode cX4_servedBy 103 = .ok (.iload_n 2, 1) := by decide +kernel
theorem dX4_servedBy_104 : decode cX4_servedBy 104 = .ok (.bipush 7, 2) := by decide +kernel
theorem dX4_servedBy_106 : decode cX4_servedBy 106 = .ok (.invokestatic 59, 3) := by decide +kernel
theorem dX4_servedBy_109 : decode cX4_servedBy 109 = .ok (.imul, 1) := by decide +kernel
theorem dX4_servedBy_110 : decode cX4_servedBy 110 = .ok (.lushr, 1) := by decide +kernel
theorem dX4_servedBy_111 : decode cX4_servedBy 111 = .ok (.l2i, 1) := by decide +kernel
theorem dX4_servedBy_112 : decode cX4_servedBy 112 = .ok (.sipush 255, 3) := by decide +kernel
theorem dX4_servedBy_115 : decode cX4_servedBy 115 = .ok (.iand, 1) := by decide +kernel
theorem dX4_servedBy_116 : decode cX4_servedBy 116 = .ok (.ireturn, 1) := by decide +kernel
theorem dX5_init_0 : decode cX5_init 0 = .ok (.aload_n 0, 1) := by decide +kernel
theorem dX5_init_1 : decode cX5_init 1 = .ok (.invokespecial 3, 3) := by decide +kernel
theorem dX5_init_4 : decode cX5_init 4 = .ok (.aload_n 0, 1) := by decide +kernel
theorem dX5_init_5 : decode cX5_init 5 = .ok (.iload_n 1, 1) := by decide +kernel
theorem dX5_init_6 : decode cX5_init 6 = .ok (.iconst 0, 1) := by decide +kernel
theorem dX5_init_7 : decode cX5_init 7 = .ok (.invokestatic 9, 3) := by decide +kernel
theorem dX5_init_10 : decode cX5_init 10 = .ok (.newarray .int, 2) := by decide +kernel
theorem dX5_init_12 : decode cX5_init 12 = .ok (.putfield 15, 3) := by decide +kernel
theorem dX5_init_15 : decode cX5_init 15 = .ok (.return_, 1) := by decide +kernel
theorem dX5_isFull_0 : decode cX5_isFull 0 = .ok (.aload_n 0, 1) := by decide +kernel
theorem dX5_isFull_1 : decode cX5_isFull 1 = .ok (.getfield 21, 3) := by decide +kernel
theorem dX5_isFull_4 : decode cX5_isFull 4 = .ok (.aload_n 0, 1) := by decide +kernel
theorem dX5_isFull_5 : decode cX5_isFull 5 = .ok (.getfield 15, 3) := by decide +kernel
theorem dX5_isFull_8 : decode cX5_isFull 8 = .ok (.arraylength, 1) := by decide +kernel
theorem dX5_isFull_9 : decode cX5_isFull 9 = .ok (.if_icmp .lt 7, 3) := by decide +kernel
theorem dX5_isFull_12 : decode cX5_isFull 12 = .ok (.iconst 1, 1) := by decide +kernel
theorem dX5_isFull_13 : decode cX5_isFull 13 = .ok (.goto 4, 3) := by decide +kernel
theorem dX5_isFull_16 : decode cX5_isFull 16 = .ok (.iconst 0, 1) := by decide +kernel
theorem dX5_isFull_17 : decode cX5_isFull 17 = .ok (.ireturn, 1) := by decide +kernel
theorem dX5_append_0 : decode cX5_append 0 = .ok (.aload_n 0, 1) := by decide +kernel
theorem dX5_append_1 : decode cX5_append 1 = .ok (.invokevirtual 25, 3) := by decide +kernel
theorem dX5_append_4 : decode cX5_append 4 = .ok (.ifCond .ne 23, 3) := by decide +kernel
theorem dX5_append_7 : decode cX5_append 7 = .ok (.aload_n 0, 1) := by decide +kernel
theorem dX5_append_8 : decode cX5_append 8 = .ok (.getfield 15, 3) := by decide +kernel
theorem dX5_append_11 : decode cX5_append 11 = .ok (.aload_n 0, 1) := by decide +kernel
theorem dX5_append_12 : decode cX5_append 12 = .ok (.getfield 21, 3) := by decide +kernel
theorem dX5_append_15 : decode cX5_append 15 = .ok (.iload_n 1, 1) := by decide +kernel
theorem dX5_append_16 : decode cX5_append 16 = .ok (.iastore, 1) := by decide +kernel
theorem dX5_append_17 : decode cX5_append 17 = .ok (.aload_n 0, 1) := by decide +kernel
theorem dX5_append_18 : decode cX5_append 18 = .ok (.dup, 1) := by decide +kernel
theorem dX5_append_19 : decode cX5_append 19 = .ok (.getfield 21, 3) := by decide +kernel
theorem dX5_append_22 : decode cX5_append 22 = .ok (.iconst 1, 1) := by decide +kernel
theorem dX5_append_23 : decode cX5_append 23 = .ok (.iadd, 1) := by decide +kernel
theorem dX5_append_24 : decode cX5_append 24 = .ok (.putfield 21, 3) := by decide +kernel
theorem dX5_append_27 : decode cX5_append 27 = .ok (.return_, 1) := by decide +kernel
theorem dX5_faultAsRiders_0 : decode cX5_faultAsRiders 0 = .ok (.iconst 0, 1) := by decide +kernel
theorem dX5_faultAsRiders_1 : decode cX5_faultAsRiders 1 = .ok (.istore_n 1, 1) := by decide +kernel
theorem dX5_faultAsRiders_2 : decode cX5_faultAsRiders 2 = .ok (.iload_n 1, 1) := by decide +kernel
theorem dX5_faultAsRiders_3 : decode cX5_faultAsRiders 3 = .ok (.aload_n 0, 1) := by decide +kernel
theorem dX5_faultAsRiders_4 : decode cX5_faultAsRiders 4 = .ok (.getfield 21, 3) := by decide +kernel
theorem dX5_faultAsRiders_7 : decode cX5_faultAsRiders 7 = .ok (.if_icmp .ge 32, 3) := by decide +kernel
theorem dX5_faultAsRiders_10 : decode cX5_faultAsRiders 10 = .ok (.iload_n 1, 1) := by decide +kernel
theorem dX5_faultAsRiders_11 : decode cX5_faultAsRiders 11 = .ok (.bipush 40, 2) := by decide +kernel
theorem dX5_faultAsRiders_13 : decode cX5_faultAsRiders 13 = .ok (.if_icmp .ge 18, 3) := by decide +kernel
theorem dX5_faultAsRiders_16 : decode cX5_faultAsRiders 16 = .ok (.iload_n 1, 1) := by decide +kernel
theorem dX5_faultAsRiders_17 : decode cX5_faultAsRiders 17 = .ok (.iconst 5, 1) := by decide +kernel
theorem dX5_faultAsRiders_18 : decode cX5_faultAsRiders 18 = .ok (.irem, 1) := by decide +kernel
theorem dX5_faultAsRiders_19 : decode cX5_faultAsRiders 19 = .ok (.aload_n 0, 1) := by decide +kernel
theorem dX5_faultAsRiders_20 : decode cX5_faultAsRiders 20 = .ok (.getfield 15, 3) := by decide +kernel
theorem dX5_faultAsRiders_23 : decode cX5_faultAsRiders 23 = .ok (.iload_n 1, 1) := by decide +kernel
theorem dX5_faultAsRiders_24 : decode cX5_faultAsRiders 24 = .ok (.iaload, 1) := by decide +kernel
theorem dX5_faultAsRiders_25 : decode cX5_faultAsRiders 25 = .ok (.invokestatic 29, 3) := by decide +kernel
theorem dX5_faultAsRiders_28 : decode cX5_faultAsRiders 28 = .ok (.ifCond .ne 5, 3) := by decide +kernel
theorem dX5_faultAsRiders_31 : decode cX5_faultAsRiders 31 = .ok (.iload_n 1, 1) := by decide +kernel
theorem dX5_faultAsRiders_32 : decode cX5_faultAsRiders 32 = .ok (.ireturn, 1) := by decide +kernel
theorem dX5_faultAsRiders_33 : decode cX5_faultAsRiders 33 = .ok (.iinc 1 1, 3) := by decide +kernel
theorem dX5_faultAsRiders_36 : decode cX5_faultAsRiders 36 = .ok (.goto (-34), 3) := by decide +kernel
theorem dX5_faultAsRiders_39 : decode cX5_faultAsRiders 39 = .ok (.aload_n 0, 1) := by decide +kernel
theorem dX5_faultAsRiders_40 : decode cX5_faultAsRiders 40 = .ok (.getfield 21, 3) := by decide +kernel
theorem dX5_faultAsRiders_43 : decode cX5_faultAsRiders 43 = .ok (.ifCond .eq 13, 3) := by decide +kernel
theorem dX5_faultAsRiders_46 : decode cX5_faultAsRiders 46 = .ok (.aload_n 0, 1) := by decide +kernel
theorem dX5_faultAsRiders_47 : decode cX5_faultAsRiders 47 = .ok (.getfield 21, 3) := by decide +kernel
theorem dX5_faultAsRiders_50 : decode cX5_faultAsRiders 50 = .ok (.iconst 5, 1) := by decide +kernel
theorem dX5_faultAsRiders_51 : decode cX5_faultAsRiders 51 = .ok (.irem, 1) := by decide +kernel
theorem dX5_faultAsRiders_52 : decode cX5_faultAsRiders 52 = .ok (.iconst 4, 1) := by decide +kernel
theorem dX5_faultAsRiders_53 : decode cX5_faultAsRiders 53 = .ok (.if_icmp .ne 7, 3) := by decide +kernel
theorem dX5_faultAsRiders_56 : decode cX5_faultAsRiders 56 = .ok (.iconst (-1), 1) := by decide +kernel
theorem dX5_faultAsRiders_57 : decode cX5_faultAsRiders 57 = .ok (.goto 7, 3) := by decide +kernel
theorem dX5_faultAsRiders_60 : decode cX5_faultAsRiders 60 = .ok (.aload_n 0, 1) := by decide +kernel
theorem dX5_faultAsRiders_61 : decode cX5_faultAsRiders 61 = .ok (.getfield 21, 3) := by decide +kernel
theorem dX5_faultAsRiders_64 : decode cX5_faultAsRiders 64 = .ok (.ireturn, 1) := by decide +kernel
theorem dX5_faultAsBag_0 : decode cX5_faultAsBag 0 = .ok (.iconst 0, 1) := by decide +kernel
theorem dX5_faultAsBag_1 : decode cX5_faultAsBag 1 = .ok (.istore_n 1, 1) := by decide +kernel
theorem dX5_faultAsBag_2 : decode cX5_faultAsBag 2 = .ok (.iload_n 1, 1) := by decide +kernel
theorem dX5_faultAsBag_3 : decode cX5_faultAsBag 3 = .ok (.aload_n 0, 1) := by decide +kernel
theorem dX5_faultAsBag_4 : decode cX5_faultAsBag 4 = .ok (.getfield 21, 3) := by decide +kernel
theorem dX5_faultAsBag_7 : decode cX5_faultAsBag 7 = .ok (.if_icmp .ge 24, 3) := by decide +kernel
theorem dX5_faultAsBag_10 : decode cX5_faultAsBag 10 = .ok (.aload_n 0, 1) := by decide +kernel
theorem dX5_faultAsBag_11 : decode cX5_faultAsBag 11 = .ok (.getfield 15, 3) := by decide +kernel
theorem dX5_faultAsBag_14 : decode cX5_faultAsBag 14 = .ok (.iload_n 1, 1) := by decide +kernel
theorem dX5_faultAsBag_15 : decode cX5_faultAsBag 15 = .ok (.iaload, 1) := by decide +kernel
theorem dX5_faultAsBag_16 : decode cX5_faultAsBag 16 = .ok (.invokestatic 33, 3) := by decide +kernel
theorem dX5_faultAsBag_19 : decode cX5_faultAsBag 19 = .ok (.iconst (-1), 1) := by decide +kernel
theorem dX5_faultAsBag_20 : decode cX5_faultAsBag 20 = .ok (.if_icmp .ne 5, 3) := by decide +kernel
theorem dX5_faultAsBag_23 : decode cX5_faultAsBag 23 = .ok (.iload_n 1, 1) := by decide +kernel
theorem dX5_faultAsBag_24 : decode cX5_faultAsBag 24 = .ok (.ireturn, 1) := by decide +kernel
theorem dX5_faultAsBag_25 : decode cX5_faultAsBag 25 = .ok (.iinc 1 1, 3) := by decide +kernel
theorem dX5_faultAsBag_28 : decode cX5_faultAsBag 28 = .ok (.goto (-26), 3) := by decide +kernel
theorem dX5_faultAsBag_31 : decode cX5_faultAsBag 31 = .ok (.iconst (-1), 1) := by decide +kernel
theorem dX5_faultAsBag_32 : decode cX5_faultAsBag 32 = .ok (.ireturn, 1) := by decide +kernel
theorem dX5_fitsRider_0 : decode cX5_fitsRider 0 = .ok (.iload_n 0, 1) := by decide +kernel
theorem dX5_fitsRider_1 : decode cX5_fitsRider 1 = .ok (.tableswitch 67 0 3 #[31, 49, 49, 31], 31) := by decide +kernel
theorem dX5_fitsRider_32 : decode cX5_fitsRider 32 = .ok (.iload_n 1, 1) := by decide +kernel
theorem dX5_fitsRider_33 : decode cX5_fitsRider 33 = .ok (.bipush 97, 2) := by decide +kernel
theorem dX5_fitsRider_35 : decode cX5_fitsRider 35 = .ok (.if_icmp .lt 13, 3) := by decide +kernel
theorem dX5_fitsRider_38 : decode cX5_fitsRider 38 = .ok (.iload_n 1, 1) := by decide +kernel
theorem dX5_fitsRider_39 : decode cX5_fitsRider 39 = .ok (.bipush 104, 2) := by decide +kernel
theorem dX5_fitsRider_41 : decode cX5_fitsRider 41 = .ok (.if_icmp .gt 7, 3) := by decide +kernel
theorem dX5_fitsRider_44 : decode cX5_fitsRider 44 = .ok (.iconst 1, 1) := by decide +kernel
theorem dX5_fitsRider_45 : decode cX5_fitsRider 45 = .ok (.goto 4, 3) := by decide +kernel
theorem dX5_fitsRider_48 : decode cX5_fitsRider 48 = .ok (.iconst 0, 1) := by decide +kernel
theorem dX5_fitsRider_49 : decode cX5_fitsRider 49 = .ok (.ireturn, 1) := by decide +kernel
theorem dX5_fitsRider_50 : decode cX5_fitsRider 50 = .ok (.iload_n 1, 1) := by decide +kernel
theorem dX5_fitsRider_51 : decode cX5_fitsRider 51 = .ok (.bipush 48, 2) := by decide +kernel
theorem dX5_fitsRider_53 : decode cX5_fitsRider 53 = .ok (.if_icmp .lt 13, 3) := by decide +kernel
theorem dX5_fitsRider_56 : decode cX5_fitsRider 56 = .ok (.iload_n 1, 1) := by decide +kernel
theorem dX5_fitsRider_57 : decode cX5_fitsRider 57 = .ok (.bipush 57, 2) := by decide +kernel
theorem dX5_fitsRider_59 : decode cX5_fitsRider 59 = .ok (.if_icmp .gt 7, 3) := by decide +kernel
theorem dX5_fitsRider_62 : decode cX5_fitsRider 62 = .ok (.iconst 1, 1) := by decide +kernel
theorem dX5_fitsRider_63 : decode cX5_fitsRider 63 = .ok (.goto 4, 3) := by decide +kernel
theorem dX5_fitsRider_66 : decode cX5_fitsRider 66 = .ok (.iconst 0, 1) := by decide +kernel
theorem dX5_fitsRider_67 : decode cX5_fitsRider 67 = .ok (.ireturn, 1) := by decide +kernel
theorem dX5_fitsRider_68 : decode cX5_fitsRider 68 = .ok (.iload_n 1, 1) := by decide +kernel
theorem dX5_fitsRider_69 : decode cX5_fitsRider 69 = .ok (.bipush 59, 2) := by decide +kernel
theorem dX5_fitsRider_71 : decode cX5_fitsRider 71 = .ok (.if_icmp .ne 7, 3) := by decide +kernel
theorem dX5_fitsRider_74 : decode cX5_fitsRider 74 = .ok (.iconst 1, 1) := by decide +kernel
theorem dX5_fitsRider_75 : decode cX5_fitsRider 75 = .ok (.goto 4, 3) := by decide +kernel
theorem dX5_fitsRider_78 : decode cX5_fitsRider 78 = .ok (.iconst 0, 1) := by decide +kernel
theorem dX5_fitsRider_79 : decode cX5_fitsRider 79 = .ok (.ireturn, 1) := by decide +kernel
theorem dX5_kindOf_0 : decode cX5_kindOf 0 = .ok (.iload_n 0, 1) := by decide +kernel
theorem dX5_kindOf_1 : decode cX5_kindOf 1 = .ok (.bipush 97, 2) := by decide +kernel
theorem dX5_kindOf_3 : decode cX5_kindOf 3 = .ok (.if_icmp .lt 14, 3) := by decide +kernel
theorem dX5_kindOf_6 : decode cX5_kindOf 6 = .ok (.iload_n 0, 1) := by decide +kernel
theorem dX5_kindOf_7 : decode cX5_kindOf 7 = .ok (.bipush 104, 2) := by decide +kernel
theorem dX5_kindOf_9 : decode cX5_kindOf 9 = .ok (.if_icmp .gt 8, 3) := by decide +kernel
theorem dX5_kindOf_12 : decode cX5_kindOf 12 = .ok (.iload_n 0, 1) := by decide +kernel
theorem dX5_kindOf_13 : decode cX5_kindOf 13 = .ok (.bipush 97, 2) := by decide +kernel
theorem dX5_kindOf_15 : decode cX5_kindOf 15 = .ok (.isub, 1) := by decide +kernel
theorem dX5_kindOf_16 : decode cX5_kindOf 16 = .ok (.ireturn, 1) := by decide +kernel
theorem dX5_kindOf_17 : decode cX5_kindOf 17 = .ok (.iload_n 0, 1) := by decide +kernel
theorem dX5_kindOf_18 : decode cX5_kindOf 18 = .ok (.bipush 65, 2) := by decide +kernel
theorem dX5_kindOf_20 : decode cX5_kindOf 20 = .ok (.if_icmp .lt 19, 3) := by decide +kernel
theorem dX5_kindOf_23 : decode cX5_kindOf 23 = .ok (.iload_n 0, 1) := by decide +kernel
theorem dX5_kindOf_24 : decode cX5_kindOf 24 = .ok (.bipush 72, 2) := by decide +kernel
theorem dX5_kindOf_26 : decode cX5_kindOf 26 = .ok (.if_icmp .gt 13, 3) := by decide +kernel
theorem dX5_kindOf_29 : decode cX5_kindOf 29 = .ok (.iload_n 0, 1) := by decide +kernel
theorem dX5_kindOf_30 : decode cX5_kindOf 30 = .ok (.bipush 65, 2) := by decide +kernel
theorem dX5_kindOf_32 : decode cX5_kindOf 32 = .ok (.isub, 1) := by decide +kernel
theorem dX5_kindOf_33 : decode cX5_kindOf 33 = .ok (.bipush 8, 2) := by decide +kernel
theorem dX5_kindOf_35 : decode cX5_kindOf 35 = .ok (.iadd, 1) := by decide +kernel
theorem dX5_kindOf_36 : decode cX5_kindOf 36 = .ok (.goto 4, 3) := by decide +kernel
theorem dX5_kindOf_39 : decode cX5_kindOf 39 = .ok (.iconst (-1), 1) := by decide +kernel
theorem dX5_kindOf_40 : decode cX5_kindOf 40 = .ok (.ireturn, 1) := by decide +kernel
theorem dX6_init_0 : decode cX6_init 0 = .ok (.aload_n 0, 1) := by decide +kernel
theorem dX6_init_1 : decode cX6_init 1 = .ok (.invokespecial 3, 3) := by decide +kernel
theorem dX6_init_4 : decode cX6_init 4 = .ok (.aload_n 0, 1) := by decide +kernel
theorem dX6_init_5 : decode cX6_init 5 = .ok (.bipush 8, 2) := by decide +kernel
theorem dX6_init_7 : decode cX6_init 7 = .ok (.newarray .int, 2) := by decide +kernel
theorem dX6_init_9 : decode cX6_init 9 = .ok (.putfield 9, 3) := by decide +kernel
theorem dX6_init_12 : decode cX6_init 12 = .ok (.aload_n 0, 1) := by decide +kernel
theorem dX6_init_13 : decode cX6_init 13 = .ok (.bipush 8, 2) := by decide +kernel
theorem dX6_init_15 : decode cX6_init 15 = .ok (.newarray .int, 2) := by decide +kernel
theorem dX6_init_17 : decode cX6_init 17 = .ok (.putfield 15, 3) := by decide +kernel
theorem dX6_init_20 : decode cX6_init 20 = .ok (.aload_n 0, 1) := by decide +kernel
theorem dX6_init_21 : decode cX6_init 21 = .ok (.bipush 8, 2) := by decide +kernel
theorem dX6_init_23 : decode cX6_init 23 = .ok (.newarray .int, 2) := by decide +kernel
theorem dX6_init_25 : decode cX6_init 25 = .ok (.putfield 18, 3) := by decide +kernel
theorem dX6_init_28 : decode cX6_init 28 = .ok (.aload_n 0, 1) := by decide +kernel
theorem dX6_init_29 : decode cX6_init 29 = .ok (.bipush 8, 2) := by decide +kernel
theorem dX6_init_31 : decode cX6_init 31 = .ok (.newarray .int, 2) := by decide +kernel
theorem dX6_init_33 : decode cX6_init 33 = .ok (.putfield 21, 3) := by decide +kernel
theorem dX6_init_36 : decode cX6_init 36 = .ok (.aload_n 0, 1) := by decide +kernel
theorem dX6_init_37 : decode cX6_init 37 = .ok (.bipush 10, 2) := by decide +kernel
theorem dX6_init_39 : decode cX6_init 39 = .ok (.newarray .int, 2) := by decide +kernel
theorem dX6_init_41 : decode cX6_init 41 = .ok (.putfield 24, 3) := by decide +kernel
theorem dX6_init_44 : decode cX6_init 44 = .ok (.aload_n 0, 1) := by decide +kernel
theorem dX6_init_45 : decode cX6_init 45 = .ok (.bipush 10, 2) := by decide +kernel
theorem dX6_init_47 : decode cX6_init 47 = .ok (.newarray .int, 2) := by decide +kernel
theorem dX6_init_49 : decode cX6_init 49 = .ok (.putfield 27, 3) := by decide +kernel
theorem dX6_init_52 : decode cX6_init 52 = .ok (.aload_n 0, 1) := by decide +kernel
theorem dX6_init_53 : decode cX6_init 53 = .ok (.new 30, 3) := by decide +kernel
theorem dX6_init_56 : decode cX6_init 56 = .ok (.dup, 1) := by decide +kernel
theorem dX6_init_57 : decode cX6_init 57 = .ok (.invokespecial 32, 3) := by decide +kernel
theorem dX6_init_60 : decode cX6_init 60 = .ok (.putfield 33, 3) := by decide +kernel
theorem dX6_init_63 : decode cX6_init 63 = .ok (.aload_n 0, 1) := by decide +kernel
theorem dX6_init_64 : decode cX6_init 64 = .ok (.bipush 8, 2) := by decide +kernel
theorem dX6_init_66 : decode cX6_init 66 = .ok (.newarray .int, 2) := by decide +kernel
theorem dX6_init_68 : decode cX6_init 68 = .ok (.dup, 1) := by decide +kernel
theorem dX6_init_69 : decode cX6_init 69 = .ok (.iconst 0, 1) := by decide +kernel
theorem dX6_init_70 : decode cX6_init 70 = .ok (.iconst 1, 1) := by decide +kernel
theorem dX6_init_71 : decode cX6_init 71 = .ok (.iastore, 1) := by decide +kernel
theorem dX6_init_72 : decode cX6_init 72 = .ok (.dup, 1) := by decide +kernel
theorem dX6_init_73 : decode cX6_init 73 = .ok (.iconst 1, 1) := by decide +kernel
theorem dX6_init_74 : decode cX6_init 74 = .ok (.iconst 2, 1) := by decide +kernel
theorem dX6_init_75 : decode cX6_init 75 = .ok (.iastore, 1) := by decide +kernel
theorem dX6_init_76 : decode cX6_init 76 = .ok (.dup, 1) := by decide +kernel
theorem dX6_init_77 : decode cX6_init 77 = .ok (.iconst 2, 1) := by decide +kernel
theorem dX6_init_78 : decode cX6_init 78 = .ok (.iconst 3, 1) := by decide +kernel
theorem dX6_init_79 : decode cX6_init 79 = .ok (.iastore, 1) := by decide +kernel
theorem dX6_init_80 : decode cX6_init 80 = .ok (.dup, 1) := by decide +kernel
theorem dX6_init_81 : decode cX6_init 81 = .ok (.iconst 3, 1) := by decide +kernel
theorem dX6_init_82 : decode cX6_init 82 = .ok (.iconst 4, 1) := by decide +kernel
theorem dX6_init_83 : decode cX6_init 83 = .ok (.iastore, 1) := by decide +kernel
theorem dX6_init_84 : decode cX6_init 84 = .ok (.dup, 1) := by decide +kernel
theorem dX6_init_85 : decode cX6_init 85 = .ok (.iconst 4, 1) := by decide +kernel
theorem dX6_init_86 : decode cX6_init 86 = .ok (.iconst 5, 1) := by decide +kernel
theorem dX6_init_87 : decode cX6_init 87 = .ok (.iastore, 1) := by decide +kernel
theorem dX6_init_88 : decode cX6_init 88 = .ok (.dup, 1) := by decide +kernel
theorem dX6_init_89 : decode cX6_init 89 = .ok (.iconst 5, 1) := by decide +kernel
theorem dX6_init_90 : decode cX6_init 90 = .ok (.bipush 6, 2) := by decide +kernel
theorem dX6_init_92 : decode cX6_init 92 = .ok (.iastore, 1) := by decide +kernel
theorem dX6_init_93 : decode cX6_init 93 = .ok (.dup, 1) := by decide +kernel
theorem dX6_init_94 : decode cX6_init 94 = .ok (.bipush 6, 2) := by decide +kernel
theorem dX6_init_96 : decode cX6_init 96 = .ok (.bipush 7, 2) := by decide +kernel
theorem dX6_init_98 : decode cX6_init 98 = .ok (.iastore, 1) := by decide +kernel
theorem dX6_init_99 : decode cX6_init 99 = .ok (.dup, 1) := by decide +kernel
theorem dX6_init_100 : decode cX6_init 100 = .ok (.bipush 7, 2) := by decide +kernel
theorem dX6_init_102 : decode cX6_init 102 = .ok (.bipush 8, 2) := by decide +kernel
theorem dX6_init_104 : decode cX6_init 104 = .ok (.iastore, 1) := by decide +kernel
theorem dX6_init_105 : decode cX6_init 105 = .ok (.putfield 37, 3) := by decide +kernel
theorem dX6_init_108 : decode cX6_init 108 = .ok (.aload_n 0, 1) := by decide +kernel
theorem dX6_init_109 : decode cX6_init 109 = .ok (.iconst 2, 1) := by decide +kernel
theorem dX6_init_110 : decode cX6_init 110 = .ok (.putfield 40, 3) := by decide +kernel
theorem dX6_init_113 : decode cX6_init 113 = .ok (.aload_n 0, 1) := by decide +kernel
theorem dX6_init_114 : decode cX6_init 114 = .ok (.bipush 32, 2) := by decide +kernel
theorem dX6_init_116 : decode cX6_init 116 = .ok (.putfield 44, 3) := by decide +kernel
theorem dX6_init_119 : decode cX6_init 119 = .ok (.return_, 1) := by decide +kernel
theorem dX6_readRiders_0 : decode cX6_readRiders 0 = .ok (.aload_n 0, 1) := by decide +kernel
theorem dX6_readRiders_1 : decode cX6_readRiders 1 = .ok (.getfield 24, 3) := by decide +kernel
theorem dX6_readRiders_4 : decode cX6_readRiders 4 = .ok (.iconst 0, 1) := by decide +kernel
theorem dX6_readRiders_5 : decode cX6_readRiders 5 = .ok (.invokestatic 47, 3) := by decide +kernel
theorem dX6_readRiders_8 : decode cX6_readRiders 8 = .ok (.aload_n 0, 1) := by decide +kernel
theorem dX6_readRiders_9 : decode cX6_readRiders 9 = .ok (.getfield 27, 3) := by decide +kernel
theorem dX6_readRiders_12 : decode cX6_readRiders 12 = .ok (.iconst 0, 1) := by decide +kernel
theorem dX6_readRiders_13 : decode cX6_readRiders 13 = .ok (.invokestatic 47, 3) := by decide +kernel
theorem dX6_readRiders_16 : decode cX6_readRiders 16 = .ok (.aload_n 0, 1) := by decide +kernel
theorem dX6_readRiders_17 : decode cX6_readRiders 17 = .ok (.aload_n 1, 1) := by decide +kernel
theorem dX6_readRiders_18 : decode cX6_readRiders 18 = .ok (.invokevirtual 53, 3) := by decide +kernel
theorem dX6_readRiders_21 : decode cX6_readRiders 21 = .ok (.iconst (-1), 1) := by decide +kernel
theorem dX6_readRiders_22 : decode cX6_readRiders 22 = .ok (.if_icmp .ne 14, 3) := by decide +kernel
theorem dX6_readRiders_25 : decode cX6_readRiders 25 = .ok (.aload_n 1, 1) := by decide +kernel
theorem dX6_readRiders_26 : decode cX6_readRiders 26 = .ok (.getfield 59, 3) := by decide +kernel
theorem dX6_readRiders_29 : decode cX6_readRiders 29 = .ok (.iconst 1, 1) := by decide +kernel
theorem dX6_readRiders_30 : decode cX6_readRiders 30 = .ok (.iadd, 1) := by decide +kernel
theorem dX6_readRiders_31 : decode cX6_readRiders 31 = .ok (.iconst 5, 1) := by decide +kernel
theorem dX6_readRiders_32 : decode cX6_readRiders 32 = .ok (.idiv, 1) := by decide +kernel
theorem dX6_readRiders_33 : decode cX6_readRiders 33 = .ok (.goto 4, 3) := by decide +kernel
theorem dX6_readRiders_36 : decode cX6_readRiders 36 = .ok (.iconst 0, 1) := by decide +kernel
theorem dX6_readRiders_37 : decode cX6_readRiders 37 = .ok (.putfield 62, 3) := by decide +kernel
theorem dX6_readRiders_40 : decode cX6_readRiders 40 = .ok (.iconst 0, 1) := by decide +kernel
theorem dX6_readRiders_41 : decode cX6_readRiders 41 = .ok (.istore_n 2, 1) := by decide +kernel
theorem dX6_readRiders_42 : decode cX6_readRiders 42 = .ok (.iload_n 2, 1) := by decide +kernel
theorem dX6_readRiders_43 : decode cX6_readRiders 43 = .ok (.aload_n 0, 1) := by decide +kernel
theorem dX6_readRiders_44 : decode cX6_readRiders 44 = .ok (.getfield 62, 3) := by decide +kernel
theorem dX6_readRiders_47 : decode cX6_readRiders 47 = .ok (.if_icmp .ge 88, 3) := by decide +kernel
theorem dX6_readRiders_50 : decode cX6_readRiders 50 = .ok (.aload_n 0, 1) := by decide +kernel
theorem dX6_readRiders_51 : decode cX6_readRiders 51 = .ok (.getfield 9, 3) := by decide +kernel
theorem dX6_readRiders_54 : decode cX6_readRiders 54 = .ok (.iload_n 2, 1) := by decide +kernel
theorem dX6_readRiders_55 : decode cX6_readRiders 55 = .ok (.aload_n 1, 1) := by decide +kernel
theorem dX6_readRiders_56 : decode cX6_readRiders 56 = .ok (.getfield 65, 3) := by decide +kernel
theorem dX6_readRiders_59 : decode cX6_readRiders 59 = .ok (.iconst 5, 1) := by decide +kernel
theorem dX6_readRiders_60 : decode cX6_readRiders 60 = .ok (.iload_n 2, 1) := by decide +kernel
theorem dX6_readRiders_61 : decode cX6_readRiders 61 = .ok (.imul, 1) := by decide +kernel
theorem dX6_readRiders_62 : decode cX6_readRiders 62 = .ok (.iaload, 1) := by decide +kernel
theorem dX6_readRiders_63 : decode cX6_readRiders 63 = .ok (.bipush 97, 2) := by decide +kernel
theorem dX6_readRiders_65 : decode cX6_readRiders 65 = .ok (.isub, 1) := by decide +kernel
theorem dX6_readRiders_66 : decode cX6_readRiders 66 = .ok (.iastore, 1) := by decide +kernel
theorem dX6_readRiders_67 : decode cX6_readRiders 67 = .ok (.aload_n 0, 1) := by decide +kernel
theorem dX6_readRiders_68 : decode cX6_readRiders 68 = .ok (.getfield 15, 3) := by decide +kernel
theorem dX6_readRiders_71 : decode cX6_readRiders 71 = .ok (.iload_n 2, 1) := by decide +kernel
theorem dX6_readRiders_72 : decode cX6_readRiders 72 = .ok (.aload_n 1, 1) := by decide +kernel
theorem dX6_readRiders_73 : decode cX6_readRiders 73 = .ok (.getfield 65, 3) := by decide +kernel
theorem dX6_readRiders_76 : decode cX6_readRiders 76 = .ok (.iconst 5, 1) := by decide +kernel
theorem dX6_readRiders_77 : decode cX6_readRiders 77 = .ok (.iload_n 2, 1) := by decide +kernel
theorem dX6_readRiders_78 : decode cX6_readRiders 78 = .ok (.imul, 1) := by decide +kernel
theorem dX6_readRiders_79 : decode cX6_readRiders 79 = .ok (.iconst 1, 1) := by decide +kernel
theorem dX6_readRiders_80 : decode cX6_readRiders 80 = .ok (.iadd, 1) := by decide +kernel
theorem dX6_readRiders_81 : decode cX6_readRiders 81 = .ok (.iaload, 1) := by decide +kernel
theorem dX6_readRiders_82 : decode cX6_readRiders 82 = .ok (.bipush 48, 2) := by decide +kernel
theorem dX6_readRiders_84 : decode cX6_readRiders 84 = .ok (.isub, 1) := by decide +kernel
theorem dX6_readRiders_85 : decode cX6_readRiders 85 = .ok (.iastore, 1) := by decide +kernel
theorem dX6_readRiders_86 : decode cX6_readRiders 86 = .ok (.aload_n 0, 1) := by decide +kernel
theorem dX6_readRiders_87 : decode cX6_readRiders 87 = .ok (.getfield 18, 3) := by decide +kernel
theorem dX6_readRiders_90 : decode cX6_readRiders 90 = .ok (.iload_n 2, 1) := by decide +kernel
theorem dX6_readRiders_91 : decode cX6_readRiders 91 = .ok (.aload_n 1, 1) := by decide +kernel
theorem dX6_readRiders_92 : decode cX6_readRiders 92 = .ok (.getfield 65, 3) := by decide +kernel
theorem dX6_readRiders_95 : decode cX6_readRiders 95 = .ok (.iconst 5, 1) := by decide +kernel
theorem dX6_readRiders_96 : decode cX6_readRiders 96 = .ok (.iload_n 2, 1) := by decide +kernel
theorem dX6_readRiders_97 : decode cX6_readRiders 97 = .ok (.imul, 1) := by decide +kernel
theorem dX6_readRiders_98 : decode cX6_readRiders 98 = .ok (.iconst 2, 1) := by decide +kernel
theorem dX6_readRiders_99 : decode cX6_readRiders 99 = .ok (.iadd, 1) := by decide +kernel
theorem dX6_readRiders_100 : decode cX6_readRiders 100 = .ok (.iaload, 1) := by decide +kernel
theorem dX6_readRiders_101 : decode cX6_readRiders 101 = .ok (.bipush 48, 2) := by decide +kernel
theorem dX6_readRiders_103 : decode cX6_readRiders 103 = .ok (.isub, 1) := by decide +kernel
theorem dX6_readRiders_104 : decode cX6_readRiders 104 = .ok (.iastore, 1) := by decide +kernel
theorem dX6_readRiders_105 : decode cX6_readRiders 105 = .ok (.aload_n 0, 1) := by decide +kernel
theorem dX6_readRiders_106 : decode cX6_readRiders 106 = .ok (.getfield 21, 3) := by decide +kernel
theorem dX6_readRiders_109 : decode cX6_readRiders 109 = .ok (.iload_n 2, 1) := by decide +kernel
theorem dX6_readRiders_110 : decode cX6_readRiders 110 = .ok (.aload_n 1, 1) := by decide +kernel
theorem dX6_readRiders_111 : decode cX6_readRiders 111 = .ok (.getfield 65, 3) := by decide +kernel
theorem dX6_readRiders_114 : decode cX6_readRiders 114 = .ok (.iconst 5, 1) := by decide +kernel
theorem dX6_readRiders_115 : decode cX6_readRiders 115 = .ok (.iload_n 2, 1) := by decide +kernel
theorem dX6_readRiders_116 : decode cX6_readRiders 116 = .ok (.imul, 1) := by decide +kernel
theorem dX6_readRiders_117 : decode cX6_readRiders 117 = .ok (.iconst 3, 1) := by decide +kernel
theorem dX6_readRiders_118 : decode cX6_readRiders 118 = .ok (.iadd, 1) := by decide +kernel
theorem dX6_readRiders_119 : decode cX6_readRiders 119 = .ok (.iaload, 1) := by decide +kernel
theorem dX6_readRiders_120 : decode cX6_readRiders 120 = .ok (.bipush 97, 2) := by decide +kernel
theorem dX6_readRiders_122 : decode cX6_readRiders 122 = .ok (.isub, 1) := by decide +kernel
theorem dX6_readRiders_123 : decode cX6_readRiders 123 = .ok (.iastore, 1) := by decide +kernel
theorem dX6_readRiders_124 : decode cX6_readRiders 124 = .ok (.aload_n 0, 1) := by decide +kernel
theorem dX6_readRiders_125 : decode cX6_readRiders 125 = .ok (.iload_n 2, 1) := by decide +kernel
theorem dX6_readRiders_126 : decode cX6_readRiders 126 = .ok (.invokevirtual 68, 3) := by decide +kernel
theorem dX6_readRiders_129 : decode cX6_readRiders 129 = .ok (.iinc 2 1, 3) := by decide +kernel
theorem dX6_readRiders_132 : decode cX6_readRiders 132 = .ok (.goto (-90), 3) := by decide +kernel
theorem dX6_readRiders_135 : decode cX6_readRiders 135 = .ok (.return_, 1) := by decide +kernel
theorem dX6_placeOnBoard_0 : decode cX6_placeOnBoard 0 = .ok (.aload_n 0, 1) := by decide +kernel
theorem dX6_placeOnBoard_1 : decode cX6_placeOnBoard 1 = .ok (.getfield 15, 3) := by decide +kernel
theorem dX6_placeOnBoard_4 : decode cX6_placeOnBoard 4 = .ok (.iload_n 1, 1) := by decide +kernel
theorem dX6_placeOnBoard_5 : decode cX6_placeOnBoard 5 = .ok (.iaload, 1) := by decide +kernel
theorem dX6_placeOnBoard_6 : decode cX6_placeOnBoard 6 = .ok (.istore_n 2, 1) := by decide +kernel
theorem dX6_placeOnBoard_7 : decode cX6_placeOnBoard 7 = .ok (.iload_n 2, 1) := by decide +kernel
theorem dX6_placeOnBoard_8 : decode cX6_placeOnBoard 8 = .ok (.aload_n 0, 1) := by decide +kernel
theorem dX6_placeOnBoard_9 : decode cX6_placeOnBoard 9 = .ok (.getfield 18, 3) := by decide +kernel
theorem dX6_placeOnBoard_12 : decode cX6_placeOnBoard 12 = .ok (.iload_n 1, 1) := by decide +kernel
theorem dX6_placeOnBoard_13 : decode cX6_placeOnBoard 13 = .ok (.iaload, 1) := by decide +kernel
theorem dX6_placeOnBoard_14 : decode cX6_placeOnBoard 14 = .ok (.if_icmp .ge 21, 3) := by decide +kernel
theorem dX6_placeOnBoard_17 : decode cX6_placeOnBoard 17 = .ok (.aload_n 0, 1) := by decide +kernel
theorem dX6_placeOnBoard_18 : decode cX6_placeOnBoard 18 = .ok (.getfield 24, 3) := by decide +kernel
theorem dX6_placeOnBoard_21 : decode cX6_placeOnBoard 21 = .ok (.iload_n 2, 1) := by decide +kernel
theorem dX6_placeOnBoard_22 : decode cX6_placeOnBoard 22 = .ok (.dup2, 1) := by decide +kernel
theorem dX6_placeOnBoard_23 : decode cX6_placeOnBoard 23 = .ok (.iaload, 1) := by decide +kernel
theorem dX6_placeOnBoard_24 : decode cX6_placeOnBoard 24 = .ok (.iconst 1, 1) := by decide +kernel
theorem dX6_placeOnBoard_25 : decode cX6_placeOnBoard 25 = .ok (.iload_n 1, 1) := by decide +kernel
theorem dX6_placeOnBoard_26 : decode cX6_placeOnBoard 26 = .ok (.ishl, 1) := by decide +kernel
theorem dX6_placeOnBoard_27 : decode cX6_placeOnBoard 27 = .ok (.ior, 1) := by decide +kernel
theorem dX6_placeOnBoard_28 : decode cX6_placeOnBoard 28 = .ok (.iastore, 1) := by decide +kernel
theorem dX6_placeOnBoard_29 : decode cX6_placeOnBoard 29 = .ok (.iinc 2 1, 3) := by decide +kernel
theorem dX6_placeOnBoard_32 : decode cX6_placeOnBoard 32 = .ok (.goto (-25), 3) := by decide +kernel
theorem dX6_placeOnBoard_35 : decode cX6_placeOnBoard 35 = .ok (.aload_n 0, 1) := by decide +kernel
theorem dX6_placeOnBoard_36 : decode cX6_placeOnBoard 36 = .ok (.getfield 15, 3) := by decide +kernel
theorem dX6_placeOnBoard_39 : decode cX6_placeOnBoard 39 = .ok (.iload_n 1, 1) := by decide +kernel
theorem dX6_placeOnBoard_40 : decode cX6_placeOnBoard 40 = .ok (.iaload, 1) := by decide +kernel
theorem dX6_placeOnBoard_41 : decode cX6_placeOnBoard 41 = .ok (.aload_n 0, 1) := by decide +kernel
theorem dX6_placeOnBoard_42 : decode cX6_placeOnBoard 42 = .ok (.getfield 18, 3) := by decide +kernel
theorem dX6_placeOnBoard_45 : decode cX6_placeOnBoard 45 = .ok (.iload_n 1, 1) := by decide +kernel
theorem dX6_placeOnBoard_46 : decode cX6_placeOnBoard 46 = .ok (.iaload, 1) := by decide +kernel
theorem dX6_placeOnBoard_47 : decode cX6_placeOnBoard 47 = .ok (.if_icmp .ge 20, 3) := by decide +kernel
theorem dX6_placeOnBoard_50 : decode cX6_placeOnBoard 50 = .ok (.aload_n 0, 1) := by decide +kernel
theorem dX6_placeOnBoard_51 : decode cX6_placeOnBoard 51 = .ok (.getfield 27, 3) := by decide +kernel
theorem dX6_placeOnBoard_54 : decode cX6_placeOnBoard 54 = .ok (.aload_n 0, 1) := by decide +kernel
theorem dX6_placeOnBoard_55 : decode cX6_placeOnBoard 55 = .ok (.getfield 18, 3) := by decide +kernel
theorem dX6_placeOnBoard_58 : decode cX6_placeOnBoard 58 = .ok (.iload_n 1, 1) := by decide +kernel
theorem dX6_placeOnBoard_59 : decode cX6_placeOnBoard 59 = .ok (.iaload, 1) := by decide +kernel
theorem dX6_placeOnBoard_60 : decode cX6_placeOnBoard 60 = .ok (.dup2, 1) := by decide +kernel
theorem dX6_placeOnBoard_61 : decode cX6_placeOnBoard 61 = .ok (.iaload, 1) := by decide +kernel
theorem dX6_placeOnBoard_62 : decode cX6_placeOnBoard 62 = .ok (.iconst 1, 1) := by decide +kernel
theorem dX6_placeOnBoard_63 : decode cX6_placeOnBoard 63 = .ok (.iload_n 1, 1) := by decide +kernel
theorem dX6_placeOnBoard_64 : decode cX6_placeOnBoard 64 = .ok (.ishl, 1) := by decide +kernel
theorem dX6_placeOnBoard_65 : decode cX6_placeOnBoard 65 = .ok (.ior, 1) := by decide +kernel
theorem dX6_placeOnBoard_66 : decode cX6_placeOnBoard 66 = .ok (.iastore, 1) := by decide +kernel
theorem dX6_placeOnBoard_67 : decode cX6_placeOnBoard 67 = .ok (.return_, 1) := by decide +kernel
theorem dX6_readBag_0 : decode cX6_readBag 0 = .ok (.aload_n 0, 1) := by decide +kernel
theorem dX6_readBag_1 : decode cX6_readBag 1 = .ok (.getfield 33, 3) := by decide +kernel
theorem dX6_readBag_4 : decode cX6_readBag 4 = .ok (.iconst 0, 1) := by decide +kernel
theorem dX6_readBag_5 : decode cX6_readBag 5 = .ok (.putfield 72, 3) := by decide +kernel
theorem dX6_readBag_8 : decode cX6_readBag 8 = .ok (.aload_n 1, 1) := by decide +kernel
theorem dX6_readBag_9 : decode cX6_readBag 9 = .ok (.invokevirtual 73, 3) := by decide +kernel
theorem dX6_readBag_12 : decode cX6_readBag 12 = .ok (.iconst (-1), 1) := by decide +kernel
theorem dX6_readBag_13 : decode cX6_readBag 13 = .ok (.if_icmp .ne 10, 3) := by decide +kernel
theorem dX6_readBag_16 : decode cX6_readBag 16 = .ok (.aload_n 1, 1) := by decide +kernel
theorem dX6_readBag_17 : decode cX6_readBag 17 = .ok (.getfield 59, 3) := by decide +kernel
theorem dX6_readBag_20 : decode cX6_readBag 20 = .ok (.goto 4, 3) := by decide +kernel
theorem dX6_readBag_23 : decode cX6_readBag 23 = .ok (.iconst 0, 1) := by decide +kernel
theorem dX6_readBag_24 : decode cX6_readBag 24 = .ok (.istore_n 2, 1) := by decide +kernel
theorem dX6_readBag_25 : decode cX6_readBag 25 = .ok (.iconst 0, 1) := by decide +kernel
theorem dX6_readBag_26 : decode cX6_readBag 26 = .ok (.istore_n 3, 1) := by decide +kernel
theorem dX6_readBag_27 : decode cX6_readBag 27 = .ok (.iload_n 3, 1) := by decide +kernel
theorem dX6_readBag_28 : decode cX6_readBag 28 = .ok (.iload_n 2, 1) := by decide +kernel
theorem dX6_readBag_29 : decode cX6_readBag 29 = .ok (.if_icmp .ge 25, 3) := by decide +kernel
theorem dX6_readBag_32 : decode cX6_readBag 32 = .ok (.aload_n 0, 1) := by decide +kernel
theorem dX6_readBag_33 : decode cX6_readBag 33 = .ok (.getfield 33, 3) := by decide +kernel
theorem dX6_readBag_36 : decode cX6_readBag 36 = .ok (.aload_n 1, 1) := by decide +kernel
theorem dX6_readBag_37 : decode cX6_readBag 37 = .ok (.getfield 65, 3) := by decide +kernel
theorem dX6_readBag_40 : decode cX6_readBag 40 = .ok (.iload_n 3, 1) := by decide +kernel
theorem dX6_readBag_41 : decode cX6_readBag 41 = .ok (.iaload, 1) := by decide +kernel
theorem dX6_readBag_42 : decode cX6_readBag 42 = .ok (.invokestatic 76, 3) := by decide +kernel
theorem dX6_readBag_45 : decode cX6_readBag 45 = .ok (.invokevirtual 80, 3) := by decide +kernel
theorem dX6_readBag_48 : decode cX6_readBag 48 = .ok (.iinc 3 1, 3) := by decide +kernel
theorem dX6_readBag_51 : decode cX6_readBag 51 = .ok (.goto (-24), 3) := by decide +kernel
theorem dX6_readBag_54 : decode cX6_readBag 54 = .ok (.return_, 1) := by decide +kernel
theorem dX6_mayChange_0 : decode cX6_mayChange 0 = .ok (.iload_n 2, 1) := by decide +kernel
theorem dX6_mayChange_1 : decode cX6_mayChange 1 = .ok (.iconst (-1), 1) := by decide +kernel
theorem dX6_mayChange_2 : decode cX6_mayChange 2 = .ok (.if_icmp .eq 17, 3) := by decide +kernel
theorem dX6_mayChange_5 : decode cX6_mayChange 5 = .ok (.iload_n 2, 1) := by decide +kernel
theorem dX6_mayChange_6 : decode cX6_mayChange 6 = .ok (.ifCond .eq 13, 3) := by decide +kernel
theorem dX6_mayChange_9 : decode cX6_mayChange 9 = .ok (.iload_n 2, 1) := by decide +kernel
theorem dX6_mayChange_10 : decode cX6_mayChange 10 = .ok (.aload_n 0, 1) := by decide +kernel
theorem dX6_mayChange_11 : decode cX6_mayChange 11 = .ok (.getfield 21, 3) := by decide +kernel
theorem dX6_mayChange_14 : decode cX6_mayChange 14 = .ok (.iload_n 1, 1) := by decide +kernel
theorem dX6_mayChange_15 : decode cX6_mayChange 15 = .ok (.iaload, 1) := by decide +kernel
theorem dX6_mayChange_16 : decode cX6_mayChange 16 = .ok (.if_icmp .ne 5, 3) := by decide +kernel
theorem dX6_mayChange_19 : decode cX6_mayChange 19 = .ok (.iconst 0, 1) := by decide +kernel
theorem dX6_mayChange_20 : decode cX6_mayChange 20 = .ok (.ireturn, 1) := by decide +kernel
theorem dX6_mayChange_21 : decode cX6_mayChange 21 = .ok (.aload_n 0, 1) := by decide +kernel
theorem dX6_mayChange_22 : decode cX6_mayChange 22 = .ok (.getfield 37, 3) := by decide +kernel
theorem dX6_mayChange_25 : decode cX6_mayChange 25 = .ok (.iload_n 2, 1) := by decide +kernel
theorem dX6_mayChange_26 : decode cX6_mayChange 26 = .ok (.iaload, 1) := by decide +kernel
theorem dX6_mayChange_27 : decode cX6_mayChange 27 = .ok (.aload_n 0, 1) := by decide +kernel
theorem dX6_mayChange_28 : decode cX6_mayChange 28 = .ok (.getfield 37, 3) := by decide +kernel
theorem dX6_mayChange_31 : decode cX6_mayChange 31 = .ok (.aload_n 0, 1) := by decide +kernel
theorem dX6_mayChange_32 : decode cX6_mayChange 32 = .ok (.getfield 21, 3) := by decide +kernel
theorem dX6_mayChange_35 : decode cX6_mayChange 35 = .ok (.iload_n 1, 1) := by decide +kernel
theorem dX6_mayChange_36 : decode cX6_mayChange 36 = .ok (.iaload, 1) := by decide +kernel
theorem dX6_mayChange_37 : decode cX6_mayChange 37 = .ok (.iaload, 1) := by decide +kernel
theorem dX6_mayChange_38 : decode cX6_mayChange 38 = .ok (.isub, 1) := by decide +kernel
theorem dX6_mayChange_39 : decode cX6_mayChange 39 = .ok (.istore 4, 2) := by decide +kernel
theorem dX6_mayChange_41 : decode cX6_mayChange 41 = .ok (.iload 4, 2) := by decide +kernel
theorem dX6_mayChange_43 : decode cX6_mayChange 43 = .ok (.iload_n 3, 1) := by decide +kernel
theorem dX6_mayChange_44 : decode cX6_mayChange 44 = .ok (.if_icmp .gt 14, 3) := by decide +kernel
theorem dX6_mayChange_47 : decode cX6_mayChange 47 = .ok (.iload 4, 2) := by decide +kernel
theorem dX6_mayChange_49 : decode cX6_mayChange 49 = .ok (.ineg, 1) := by decide +kernel
theorem dX6_mayChange_50 : decode cX6_mayChange 50 = .ok (.iload_n 3, 1) := by decide +kernel
theorem dX6_mayChange_51 : decode cX6_mayChange 51 = .ok (.if_icmp .gt 7, 3) := by decide +kernel
theorem dX6_mayChange_54 : decode cX6_mayChange 54 = .ok (.iconst 1, 1) := by decide +kernel
theorem dX6_mayChange_55 : decode cX6_mayChange 55 = .ok (.goto 4, 3) := by decide +kernel
theorem dX6_mayChange_58 : decode cX6_mayChange 58 = .ok (.iconst 0, 1) := by decide +kernel
theorem dX6_mayChange_59 : decode cX6_mayChange 59 = .ok (.ireturn, 1) := by decide +kernel
theorem dX6_isRing_0 : decode cX6_isRing 0 = .ok (.aload_n 0, 1) := by decide +kernel
theorem dX6_isRing_1 : decode cX6_isRing 1 = .ok (.getfield 21, 3) := by decide +kernel
theorem dX6_isRing_4 : decode cX6_isRing 4 = .ok (.iload_n 1, 1) := by decide +kernel
theorem dX6_isRing_5 : decode cX6_isRing 5 = .ok (.iaload, 1) := by decide +kernel
theorem dX6_isRing_6 : decode cX6_isRing 6 = .ok (.aload_n 0, 1) := by decide +kernel
theorem dX6_isRing_7 : decode cX6_isRing 7 = .ok (.getfield 9, 3) := by decide +kernel
theorem dX6_isRing_10 : decode cX6_isRing 10 = .ok (.iload_n 2, 1) := by decide +kernel
theorem dX6_isRing_11 : decode cX6_isRing 11 = .ok (.iaload, 1) := by decide +kernel
theorem dX6_isRing_12 : decode cX6_isRing 12 = .ok (.if_icmp .ne 82, 3) := by decide +kernel
theorem dX6_isRing_15 : decode cX6_isRing 15 = .ok (.aload_n 0, 1) := by decide +kernel
theorem dX6_isRing_16 : decode cX6_isRing 16 = .ok (.getfield 21, 3) := by decide +kernel
theorem dX6_isRing_19 : decode cX6_isRing 19 = .ok (.iload_n 2, 1) := by decide +kernel
theorem dX6_isRing_20 : decode cX6_isRing 20 = .ok (.iaload, 1) := by decide +kernel
theorem dX6_isRing_21 : decode cX6_isRing 21 = .ok (.aload_n 0, 1) := by decide +kernel
theorem dX6_isRing_22 : decode cX6_isRing 22 = .ok (.getfield 9, 3) := by decide +kernel
theorem dX6_isRing_25 : decode cX6_isRing 25 = .ok (.iload_n 3, 1) := by decide +kernel
theorem dX6_isRing_26 : decode cX6_isRing 26 = .ok (.iaload, 1) := by decide +kernel
theorem dX6_isRing_27 : decode cX6_isRing 27 = .ok (.if_icmp .ne 67, 3) := by decide +kernel
theorem dX6_isRing_30 : decode cX6_isRing 30 = .ok (.aload_n 0, 1) := by decide +kernel
theorem dX6_isRing_31 : decode cX6_isRing 31 = .ok (.getfield 21, 3) := by decide +kernel
theorem dX6_isRing_34 : decode cX6_isRing 34 = .ok (.iload_n 3, 1) := by decide +kernel
theorem dX6_isRing_35 : decode cX6_isRing 35 = .ok (.iaload, 1) := by decide +kernel
theorem dX6_isRing_36 : decode cX6_isRing 36 = .ok (.aload_n 0, 1) := by decide +kernel
theorem dX6_isRing_37 : decode cX6_isRing 37 = .ok (.getfield 9, 3) := by decide +kernel
theorem dX6_isRing_40 : decode cX6_isRing 40 = .ok (.iload_n 1, 1) := by decide +kernel
theorem dX6_isRing_41 : decode cX6_isRing 41 = .ok (.iaload, 1) := by decide +kernel
theorem dX6_isRing_42 : decode cX6_isRing 42 = .ok (.if_icmp .ne 52, 3) := by decide +kernel
theorem dX6_isRing_45 : decode cX6_isRing 45 = .ok (.aload_n 0, 1) := by decide +kernel
theorem dX6_isRing_46 : decode cX6_isRing 46 = .ok (.getfield 21, 3) := by decide +kernel
theorem dX6_isRing_49 : decode cX6_isRing 49 = .ok (.iload_n 1, 1) := by decide +kernel
theorem dX6_isRing_50 : decode cX6_isRing 50 = .ok (.iaload, 1) := by decide +kernel
theorem dX6_isRing_51 : decode cX6_isRing 51 = .ok (.aload_n 0, 1) := by decide +kernel
theorem dX6_isRing_52 : decode cX6_isRing 52 = .ok (.getfield 9, 3) := by decide +kernel
theorem dX6_isRing_55 : decode cX6_isRing 55 = .ok (.iload_n 1, 1) := by decide +kernel
theorem dX6_isRing_56 : decode cX6_isRing 56 = .ok (.iaload, 1) := by decide +kernel
theorem dX6_isRing_57 : decode cX6_isRing 57 = .ok (.if_icmp .eq 37, 3) := by decide +kernel
theorem dX6_isRing_60 : decode cX6_isRing 60 = .ok (.aload_n 0, 1) := by decide +kernel
theorem dX6_isRing_61 : decode cX6_isRing 61 = .ok (.getfield 21, 3) := by decide +kernel
theorem dX6_isRing_64 : decode cX6_isRing 64 = .ok (.iload_n 2, 1) := by decide +kernel
theorem dX6_isRing_65 : decode cX6_isRing 65 = .ok (.iaload, 1) := by decide +kernel
theorem dX6_isRing_66 : decode cX6_isRing 66 = .ok (.aload_n 0, 1) := by decide +kernel
theorem dX6_isRing_67 : decode cX6_isRing 67 = .ok (.getfield 9, 3) := by decide +kernel
theorem dX6_isRing_70 : decode cX6_isRing 70 = .ok (.iload_n 2, 1) := by decide +kernel
theorem dX6_isRing_71 : decode cX6_isRing 71 = .ok (.iaload, 1) := by decide +kernel
theorem dX6_isRing_72 : decode cX6_isRing 72 = .ok (.if_icmp .eq 22, 3) := by decide +kernel
theorem dX6_isRing_75 : decode cX6_isRing 75 = .ok (.aload_n 0, 1) := by decide +kernel
theorem dX6_isRing_76 : decode cX6_isRing 76 = .ok (.getfield 21, 3) := by decide +kernel
theorem dX6_isRing_79 : decode cX6_isRing 79 = .ok (.iload_n 3, 1) := by decide +kernel
theorem dX6_isRing_80 : decode cX6_isRing 80 = .ok (.iaload, 1) := by decide +kernel
theorem dX6_isRing_81 : decode cX6_isRing 81 = .ok (.aload_n 0, 1) := by decide +kernel
theorem dX6_isRing_82 : decode cX6_isRing 82 = .ok (.getfield 9, 3) := by decide +kernel
theorem dX6_isRing_85 : decode cX6_isRing 85 = .ok (.iload_n 3, 1) := by decide +kernel
theorem dX6_isRing_86 : decode cX6_isRing 86 = .ok (.iaload, 1) := by decide +kernel
theorem dX6_isRing_87 : decode cX6_isRing 87 = .ok (.if_icmp .eq 7, 3) := by decide +kernel
theorem dX6_isRing_90 : decode cX6_isRing 90 = .ok (.iconst 1, 1) := by decide +kernel
theorem dX6_isRing_91 : decode cX6_isRing 91 = .ok (.goto 4, 3) := by decide +kernel
theorem dX6_isRing_94 : decode cX6_isRing 94 = .ok (.iconst 0, 1) := by decide +kernel
theorem dX6_isRing_95 : decode cX6_isRing 95 = .ok (.ireturn, 1) := by decide +kernel
